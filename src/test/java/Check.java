/** What the tests share: counts wrong answers and puts texts on the tape. */
final class Check {
    private static int wrong = 0;
    private static int asked = 0;
    private static String subject = "";

    private Check() {
    }

    /** Which words of the document the answers that follow are about; a wrong answer is told with them. */
    static void about(String words) {
        subject = "\"" + words + "\": ";
    }

    static void due(String call, long got, long want) {
        asked++;
        if (got != want) {
            wrong++;
            if (wrong <= 50) {
                System.out.println(subject + call + " answered " + got + ", due is " + want);
            }
        }
    }

    static void holds(String what, boolean is) {
        due(what, is ? 1 : 0, 1);
    }

    /** A new plug, on this day. */
    static LoosePlug onDay(int day) {
        LoosePlug x = new LoosePlug();
        for (int left = day; left > 0; left -= Math.min(99, left)) {
            x.later(Math.min(99, left));
        }
        return x;
    }

    /** Puts a text on the tape, eight bytes a call, and checks how many the tape is told to have. */
    static void feed(LoosePlug plug, String text) {
        int before = plug.many(5);
        for (int from = 0; from < text.length(); from += 8) {
            int n = Math.min(8, text.length() - from);
            long eight = 0;
            for (int k = n - 1; k >= 0; k--) {
                eight = eight << 8 | text.charAt(from + k);
            }
            due("feed of '" + text + "'", plug.feed(eight, n), before + from + n);
        }
    }

    static int story(LoosePlug plug, String text, int weight) {
        feed(plug, text);
        return plug.story(weight);
    }

    static int house(LoosePlug plug, String text) {
        feed(plug, text);
        return plug.house();
    }

    static void storyDue(String text, int want) {
        due("story '" + text + "'", story(new LoosePlug(), text, 1), want);
    }

    static void houseDue(String text, int want) {
        due("house '" + text + "'", house(new LoosePlug(), text), want);
    }

    /** Ends the test: exit code 1 if an answer was not the one that is due. */
    static void end() {
        System.out.println(wrong == 0 ? asked + " answers are as due" : wrong + " of " + asked + " answers are not as due");
        if (wrong != 0) {
            System.exit(1);
        }
    }
}
