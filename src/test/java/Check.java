import java.nio.charset.StandardCharsets;

/** Counts answers that are not as due; what all tests of the project share. */
final class Check {
    private static int wrong = 0;
    private static int asked = 0;

    private Check() {
    }

    static void due(String call, long got, long want) {
        asked++;
        if (got != want) {
            wrong++;
            if (wrong <= 40) {
                System.out.println(call + " answered " + got + ", due is " + want);
            }
        }
    }

    static void due(String call, boolean got, boolean want) {
        due(call, got ? 1L : 0L, want ? 1L : 0L);
    }

    static int wrong() {
        return wrong;
    }

    static boolean allIsWell() {
        return wrong == 0;
    }

    static void end(String test) {
        System.out.println(test + ": " + asked + " answers, " + wrong + " not as due");
        if (wrong != 0) {
            System.exit(1);
        }
    }

    /** Feeds a text in pieces of 24 signs; the zeros behind its end are no signs and are left out. */
    static int feed(SnapWed x, String text) {
        byte[] bytes = text.getBytes(StandardCharsets.ISO_8859_1);
        int answer = x.count(10);
        for (int from = 0; from < bytes.length; from += 24) {
            answer = x.feed(eight(bytes, from), eight(bytes, from + 8), eight(bytes, from + 16));
        }
        return answer;
    }

    static long eight(byte[] bytes, int from) {
        long packed = 0;
        for (int i = from; i < from + 8; i++) {
            packed = packed << 8 | (i < bytes.length ? bytes[i] & 255 : 0);
        }
        return packed;
    }

    static int province(SnapWed x, String text) {
        feed(x, text);
        return x.province();
    }

    static int day(SnapWed x, String text) {
        feed(x, text);
        return x.day();
    }

    /** A new object with a province that has to be without fault. */
    static SnapWed in(String text) {
        SnapWed x = new SnapWed();
        due("province " + text, province(x, text), 0);
        return x;
    }
}
