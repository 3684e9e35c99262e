/** A walk through what a desk is asked. README.md shows it, with what it prints. */
public final class Example {
    public static void main(String[] args) {
        ModeDesk desk = new ModeDesk();

        say("lines of the text", tell(desk, "row 5 3 5 7 3 5; weight 3 9; block 2; ties first;"));
        say("places", desk.count(0));

        // A span is told by its first and its last place; places are counted from 0.
        say("mode of 0 to 5", desk.mode(0, 5, 0));
        say("how often it stands there", desk.mode(0, 5, 1));
        say("the one ranked next", desk.ranked(0, 5, 1, 0));
        say("majority of 0 to 2", desk.majority(0, 2));
        say("majority of 0 to 5, there is none", desk.majority(0, 5));
        say("heaviest value", desk.heaviest(0, 5, 0));
        say("no such span", desk.mode(0, 6, 0));

        // Each edit answers what it did. The latest twelve can be undone.
        say("value that stood at place 1", desk.set(1, 7));
        say("pairs of blocks made new by it", desk.refreshed());
        say("places there are with one more", desk.insert(6, 7));
        say("mode behind the edits", desk.mode(0, 6, 0));
        say("by ties the other way", desk.ifTies(3, 0, 6));
        say("value at place 1 two edits ago", desk.was(2, 1));
        say("edits that can still be undone", desk.undo());

        say("parts with a majority each", desk.part(ModeDesk.NONE));
        say("the second part begins at", desk.part(1));

        // A text with a fault changes nothing but the tape, which is empty behind it.
        say("a text with a fault", tell(desk, "row 1 2 1000;"));
        say("its fault: too much", desk.fault(0));
        say("its place in the text", desk.fault(1));

        try {
            desk.place(6, 0);
        } catch (IndexOutOfBoundsException e) {
            say("places, so 6 is none", desk.count(0));
        }
    }

    /** Feeds a text of at most 900 signs to an empty tape, and has it read. */
    static int tell(ModeDesk desk, String text) {
        for (int at = 0; at < text.length(); at += 20) {
            desk.feed(four(text, at), four(text, at + 4), four(text, at + 8), four(text, at + 12), four(text, at + 16));
        }
        return desk.text(text.length());
    }

    /** Four signs in one number, the first one highest; blanks behind the text. */
    static int four(String text, int at) {
        int number = 0;
        for (int i = at; i < at + 4; i++) {
            number = number << 8 | (i < text.length() ? text.charAt(i) : ' ');
        }
        return number;
    }

    static void say(String what, int answer) {
        System.out.println(what + ": " + answer);
    }
}
