/** What a test says of its calls: it prints each answer that is not the one that is due. */
final class Due {
    private final String name;
    private int asked;
    private int wrong;

    Due(String name) {
        this.name = name;
    }

    void is(String call, long got, long want) {
        asked++;
        if (got != want) {
            wrong++;
            System.out.println(name + ": " + call + " answered " + got + ", due is " + want);
        }
    }

    void end() {
        if (asked == 0) {
            wrong++;
        }
        System.out.println(name + ": " + asked + " answers, " + wrong + " not as due");
        if (wrong != 0) {
            System.exit(1);
        }
    }

    static void feed(AtlasEnds x, String text) {
        for (int i = 0; i < text.length(); i++) {
            x.feed(text.charAt(i));
        }
    }

    /** Feeds the text, and answers what library() answers. */
    static int library(AtlasEnds x, String text) {
        feed(x, text);
        return x.library();
    }

    /** An object with people of KIND 0 and v 0, at these PLACES. */
    static AtlasEnds ones(int... places) {
        AtlasEnds x = new AtlasEnds();
        for (int place : places) {
            x.one(0, 0, place);
        }
        return x;
    }
}
