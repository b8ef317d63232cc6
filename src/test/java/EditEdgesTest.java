import java.util.ArrayList;
import java.util.List;
import java.util.Map;
import java.util.function.Consumer;

/** The edges of the terms under AN EDIT, of promises 1 to 5 and of promise 12. */
public final class EditEdgesTest {
    private static final Check check = new Check("EditEdgesTest");
    private static final int NONE = SharedSyntax.NONE;

    public static void main(String[] args) {
        newObject();
        twentyInTheBuffer();
        bufferAfterAnEdit();
        startAndRemoved();
        farStartAndRemoved();
        fullTextAndFullBuffer();
        goingBack();
        bufferStaysWhenGoingBack();
        ofMoreThanThreeTheFirstIsGivenUp();
        theVersion();
        keptBefore();
        keptBehind();
        keptOnBothSides();
        keptWithoutCharacters();
        keptKinds();
        keptOnlyIfEqual();
        keptOfTheOldTreeAlone();
        keptInTheLatestEdit();
        length();
        differentNodes();
        noSuchCount();
        check.end();
    }

    private static void counts(String what, SharedSyntax x, int version, int stored, int kept, int buffer) {
        check.due(what + ": version", x.count(4), version);
        check.due(what + ": stored", x.count(5), stored);
        check.due(what + ": kept", x.count(6), kept);
        check.due(what + ": buffer", x.count(7), buffer);
    }

    // 1: "An empty text, version 0; the buffer is empty."
    private static void newObject() {
        SharedSyntax used = Check.of("if(a)~b;");
        Check.type(used, "xyz");
        SharedSyntax x = new SharedSyntax();
        check.due("new: length", x.length(), 0);
        check.due("new: letter", x.letter(0), 0);
        check.due("new: tree", Check.tree(x), "20(17:)");
        check.due("new: faults", Check.faults(x), "");
        check.due("new: nodes", x.count(0), 2);
        check.due("new: leaves", x.count(1), 1);
        check.due("new: faults", x.count(2), 0);
        check.due("new: different nodes", x.count(3), 2);
        counts("new", x, 0, 0, 0, 0);
        check.due("new: program", x.node(0, 0), 20);
        check.due("new: END", x.node(1, 0), 17);
        check.due("new: no third node", x.node(2, 0), NONE);
        check.due("new: edit puts nothing in", x.edit(0, 0), true);
        check.due("new: text", Check.text(x), "");
    }

    // "the BUFFER (at most 20, typed before)"; 2: "false .. when .. 20 are there"
    private static void twentyInTheBuffer() {
        SharedSyntax x = new SharedSyntax();
        for (int i = 0; i < 20; i++) {
            check.due("typed before: " + i, x.count(7), i);
            check.due("type number " + (i + 1), x.type((char) ('a' + i)), true);
        }
        for (int i = 0; i < 3; i++) {
            check.due("type number 21", x.type('z'), false);
            check.due("20 are there", x.count(7), 20);
        }
        check.due("edit", x.edit(0, 0), true);
        check.due("in the order of typing", Check.text(x), "abcdefghijklmnopqrst");
    }

    // 3: "the buffer is empty afterwards", so that there is room for 20 again, also after a refused edit.
    private static void bufferAfterAnEdit() {
        SharedSyntax x = new SharedSyntax();
        for (int i = 0; i < 3; i++) {
            Check.type(x, States.TYPED_TWENTY);
            check.due("edit " + i, x.edit(20 * i, 0), true);
            check.due("empty after edit " + i, x.count(7), 0);
        }
        Check.type(x, States.TYPED_TWENTY);
        check.due("refused", x.edit(60, 0), false);
        check.due("empty after a refused edit", x.count(7), 0);
        check.due("nothing is put in", x.edit(0, 0), true);
        check.due("text", Check.text(x), States.TYPED_TWENTY.repeat(3));
        Check.type(x, "1");
        check.due("only what was typed since", x.edit(0, 60), true);
        check.due("text", Check.text(x), "1");
    }

    // 3: "when start or removed is below 0, start + removed is above the length of the text"
    private static void startAndRemoved() {
        String whole = "a1;b2";
        for (int length = 0; length <= 5; length++) {
            String text = whole.substring(0, length);
            for (int start = -2; start <= length + 2; start++) {
                for (int removed = -2; removed <= length + 2; removed++) {
                    for (String put : new String[] {"", "x", "(y"}) {
                        SharedSyntax x = Check.of(text);
                        int version = x.count(4);
                        boolean right = start >= 0 && removed >= 0 && start + removed <= length;
                        String what = "edit(" + start + ", " + removed + ") of " + text + " with " + put;
                        check.due(what, Check.put(x, start, removed, put), right);
                        String due = right ? text.substring(0, start) + put + text.substring(start + removed) : text;
                        check.due(what + ": text", Check.text(x), due);
                        check.due(what + ": length", x.length(), due.length());
                        check.due(what + ": version", x.count(4), right ? version + 1 : version);
                        check.due(what + ": buffer", x.count(7), 0);
                    }
                }
            }
        }
    }

    // The same as far out as an int goes: start + removed may wrap around.
    private static void farStartAndRemoved() {
        int[] far = {
            Integer.MIN_VALUE, Integer.MIN_VALUE + 1, -(1 << 30), -61, -1, 0, 1, 3, 4, 61, 1 << 16, 1 << 30, (1 << 30) + 1,
            Integer.MAX_VALUE - 3, Integer.MAX_VALUE - 2, Integer.MAX_VALUE - 1, Integer.MAX_VALUE,
        };
        for (int start : far) {
            for (int removed : far) {
                SharedSyntax x = Check.of("ab;");
                boolean right = start >= 0 && removed >= 0 && (long) start + removed <= 3;
                String what = "edit(" + start + ", " + removed + ")";
                check.due(what, Check.put(x, start, removed, "z"), right);
                check.due(what + ": version", x.count(4), right ? 2 : 1);
                check.due(what + ": stored", x.count(5), right ? 2 : 1);
            }
        }
    }

    // 3: "or the new text would have more than 60 characters", with as much in the text and in the buffer as can be
    private static void fullTextAndFullBuffer() {
        String sixty = States.TWENTY.repeat(3);
        for (int removed = 0; removed <= 60; removed++) {
            for (int start : new int[] {0, (60 - removed) / 2, 60 - removed}) {
                SharedSyntax x = Check.of(sixty);
                String what = "20 for " + removed + " at " + start;
                boolean right = removed >= 20;
                check.due(what, Check.put(x, start, removed, States.TYPED_TWENTY), right);
                String due = sixty.substring(0, start) + States.TYPED_TWENTY + sixty.substring(start + removed);
                check.due(what, Check.text(x), right ? due : sixty);
                check.due(what + ": nodes", x.count(0), Check.of(right ? due : sixty).count(0));
            }
        }
        SharedSyntax x = Check.of(sixty);
        check.due("nothing put into 60", x.edit(60, 0), true);
        check.due("nothing put into 60", x.edit(0, 0), true);
        check.due("one over the end of 60", x.edit(60, 1), false);
        check.due("all of 60", x.edit(0, 60), true);
        check.due("empty", x.length(), 0);
    }

    // 4: "the text stored last is the present one (and is stored no more), with its tree"
    private static void goingBack() {
        SharedSyntax x = Check.of("a;");
        Check.put(x, 2, 0, "~");
        Check.put(x, 0, 3, "if");
        check.due("undo", x.undo(), true);
        check.due("text", Check.text(x), "a;~");
        check.due("tree", Check.tree(x), "20(24(1:a 6:;) 17:~)");
        check.due("faults", Check.faults(x), "2/1");
        counts("once", x, 2, 2, 0, 0);
        check.due("undo", x.undo(), true);
        check.due("tree", Check.tree(x), "20(24(1:a 6:;) 17:)");
        check.due("faults", Check.faults(x), "");
        check.due("undo", x.undo(), true);
        check.due("tree", Check.tree(x), "20(17:)");
        counts("to the beginning", x, 0, 0, 0, 0);
        check.due("undo", x.undo(), false);
        counts("no more", x, 0, 0, 0, 0);
        check.due("undo of a new object", new SharedSyntax().undo(), false);
        SharedSyntax refused = new SharedSyntax();
        refused.edit(0, 1);
        check.due("undo of a refused edit", refused.undo(), false);
    }

    // 4: "the buffer stays"
    private static void bufferStaysWhenGoingBack() {
        for (String buffer : States.buffers()) {
            SharedSyntax x = Check.of("a;");
            Check.type(x, buffer);
            check.due("undo", x.undo(), true);
            check.due("buffer of " + buffer.length() + " after undo", x.count(7), buffer.length());
            check.due("undo", x.undo(), false);
            check.due("buffer of " + buffer.length() + " after a refused undo", x.count(7), buffer.length());
            check.due("room for another", x.type('z'), buffer.length() < 20);
            check.due("edit", x.edit(0, 0), true);
            check.due("what is put in", Check.text(x), buffer.length() < 20 ? buffer + "z" : buffer);
        }
    }

    // "An edit STORES the text before it, behind those that are stored; of more than 3 the first one is given up."
    private static void ofMoreThanThreeTheFirstIsGivenUp() {
        for (int edits = 0; edits <= 9; edits++) {
            for (int again = 0; again <= 4; again++) {
                historyDue(edits, again);
            }
        }
    }

    /** So many edits, two steps back, more edits, and then back as often as it goes. */
    private static void historyDue(int edits, int again) {
        SharedSyntax x = new SharedSyntax();
        List<String> stored = new ArrayList<>();
        String text = "";
        int version = 0;
        String what = edits + " edits and " + again + ": ";
        for (int i = 0; i < edits + again; i++) {
            for (int back = 0; i == edits && back < 2 && !stored.isEmpty(); back++) {
                text = stored.remove(stored.size() - 1);
                version--;
                check.due(what + "undo", x.undo(), true);
                check.due(what + "text", Check.text(x), text);
            }
            stored.add(text);
            text = text + (char) ('a' + i) + ";";
            version++;
            check.due(what + "edit", Check.put(x, text.length() - 2, 0, text.substring(text.length() - 2)), true);
            if (stored.size() == 4) {
                stored.remove(0);
            }
            check.due(what + "stored", x.count(5), stored.size());
        }
        while (!stored.isEmpty()) {
            text = stored.remove(stored.size() - 1);
            version--;
            check.due(what + "undo", x.undo(), true);
            check.due(what + "text", Check.text(x), text);
            check.due(what + "version", x.count(4), version);
            check.due(what + "stored", x.count(5), stored.size());
        }
        check.due(what + "no more", x.undo(), false);
        check.due(what + "text", Check.text(x), text);
        check.due(what + "version", x.count(4), version);
    }

    // "The VERSION is 0 at first, 1 more after an edit, 1 less after going back."
    private static void theVersion() {
        SharedSyntax x = new SharedSyntax();
        check.due("version at first", x.count(4), 0);
        for (int i = 1; i <= 100; i++) {
            check.due("edit that changes no character", x.edit(0, 0), true);
            check.due("version", x.count(4), i);
            check.due("stored", x.count(5), Math.min(i, 3));
        }
        check.due("refused", x.edit(1, 0), false);
        check.due("version after a refused edit", x.count(4), 100);
        for (int i = 1; i <= 3; i++) {
            check.due("undo", x.undo(), true);
            check.due("version", x.count(4), 100 - i);
        }
        check.due("undo", x.undo(), false);
        check.due("version after a refused undo", x.count(4), 97);
        check.due("edit", x.edit(0, 0), true);
        check.due("version", x.count(4), 98);
    }

    private static void keptDue(String text, int start, int removed, String put, int kept) {
        SharedSyntax x = Check.of(text);
        String what = "edit(" + start + ", " + removed + ") of " + text + " with " + put;
        check.due(what, Check.put(x, start, removed, put), true);
        check.due(what + ": kept", x.count(6), kept);
    }

    // "an equal one which begins at the same place and ends not behind start"
    private static void keptBefore() {
        keptDue("a;", 2, 0, "", 1);
        keptDue("a;", 2, 0, "b;", 1);
        keptDue("a;", 2, 0, " ", 1);
        keptDue("a;", 1, 1, ";", 0);
        keptDue("a;", 1, 0, "", 0);
        keptDue("a; ", 2, 1, "", 1);
        keptDue("a; ", 3, 0, "b", 1);
        keptDue("a;b", 3, 0, ";", 1);
        keptDue("a;b;", 3, 1, ";", 1);
        keptDue("a;b;", 4, 0, ";", 2);
        keptDue("a;b;c;", 4, 2, "", 2);
        keptDue("a;b;c;", 5, 1, ";", 2);
        keptDue("a;b;c;", 6, 0, "", 3);
        keptDue("a;".repeat(30), 60, 0, "", 30);
        keptDue("a;".repeat(30), 59, 1, ";", 29);
        keptDue("a;".repeat(20), 40, 0, "a;".repeat(10), 20);
    }

    // "or which begins not before start + removed, and the new one begins at that place - removed + the number .. put in"
    private static void keptBehind() {
        keptDue("a;", 0, 0, "", 1);
        keptDue("a;", 0, 0, "b;", 1);
        keptDue("a;", 0, 0, " ", 0);
        keptDue("a;", 0, 1, "a", 0);
        keptDue(" a;", 0, 1, "", 0);
        keptDue("a;b;", 0, 1, "a", 1);
        keptDue("a;b;", 0, 2, "", 1);
        keptDue("a;b;", 0, 3, "b", 0);
        keptDue("a;a;", 0, 2, "a;", 1);
        keptDue("a;a;", 0, 2, "a;a;", 1);
        keptDue("a;a;", 0, 4, "a;a;", 0);
        keptDue("a;a;a;", 0, 2, "", 2);
        keptDue("a;b;c;", 0, 4, "x;", 1);
        keptDue("a;".repeat(30), 0, 40, "a;".repeat(10), 10);
        keptDue("a;".repeat(30), 0, 60, "a;".repeat(10), 0);
        keptDue("a;".repeat(20), 0, 0, "a;".repeat(10), 20);
        keptDue("a;".repeat(30), 0, 59, "a", 0);
    }

    private static void keptOnBothSides() {
        keptDue("a;b;c;", 2, 0, "", 3);
        keptDue("a;b;c;", 2, 0, "x;", 3);
        keptDue("a;b;c;", 2, 1, "b", 2);
        keptDue("a;b;c;", 2, 2, "b;", 2);
        keptDue("a;b;c;", 1, 2, ";b", 1);
        keptDue("a;b;c;", 1, 3, ";b;", 1);
        keptDue("a;b;c;", 1, 4, ";b;c", 0);
        keptDue("a;b;c;", 3, 0, "", 2);
        keptDue("a;b;c;", 2, 2, "", 2);
        keptDue("a;b;c;", 2, 2, "x;y;", 2);
        keptDue("a;b;b;c;", 2, 2, "", 3);
        keptDue("a;a;a;a;", 2, 4, "", 2);
        keptDue("a;a;a;a;", 2, 4, "a;", 2);
        keptDue("a;a;a;a;", 3, 4, "", 1);
        keptDue("a;".repeat(30), 20, 20, "a;".repeat(10), 20);
        keptDue("a;".repeat(30), 20, 20, "", 20);
        keptDue("a;".repeat(30), 21, 18, ";" + "a;".repeat(8) + "a", 20);
        keptDue("a;".repeat(30), 21, 20, ";" + "a;".repeat(9) + "a", 19);
    }

    // A missing part lies at one place: it begins and ends there.
    private static void keptWithoutCharacters() {
        keptDue("if(a)", 5, 0, "", 2);
        keptDue("if(a)", 5, 0, " ", 2);
        keptDue("if(a)", 5, 0, "}", 2);
        keptDue("if(a)", 5, 0, ";", 0);
        keptDue("if(a)", 4, 1, ")", 1);
        keptDue("if(a)", 3, 1, "b", 1);
        keptDue("if(a)", 0, 5, "if(a)", 1);
        keptDue("if(a)", 0, 0, ";", 2);
        keptDue("if(a)}", 5, 1, "", 2);
        keptDue("if(a)}", 5, 1, "~", 2);
        keptDue("if(a)b;", 5, 2, "", 0);
        keptDue("if(a)b;", 0, 5, "", 1);
        keptDue("if(a)else", 5, 4, "", 1);
        keptDue("if(a)else", 9, 0, "", 3);
        // The if has no else any more, and its part is the missing one which was behind the else.
        keptDue("if(a)else", 0, 9, "if(a)", 1);
    }

    // "A statement (a node of the kinds 21 to 25)"
    private static void keptKinds() {
        keptDue("", 0, 0, "", 0);
        keptDue(" ", 1, 0, "", 0);
        keptDue("{}", 2, 0, "", 1);
        keptDue("if(a);", 6, 0, "", 2);
        keptDue("while(a);", 9, 0, "", 2);
        keptDue("(-a+b)*1;", 9, 0, "", 1);
        keptDue(";", 1, 0, "", 1);
        keptDue("{if(a);while(b)c;}", 18, 0, "", 5);
        keptDue("{if(a);while(b)c;}", 0, 0, "", 5);
        keptDue("{if(a);while(b)c;}", 17, 1, "}", 4);
        keptDue("{if(a);while(b)c;}", 0, 1, "{", 4);
        keptDue("{a;b;}", 3, 0, "x", 1);
        keptDue("{a;{b;c;}d;}", 6, 1, "y", 3);
    }

    // "the old tree has an equal one": what follows or stands round a statement may change it.
    private static void keptOnlyIfEqual() {
        keptDue("if(a)b;", 7, 0, "else", 1);
        keptDue("if(a)b;else", 7, 4, "", 1);
        keptDue("a b;", 1, 0, ";", 1);
        keptDue("a b;", 0, 1, "", 1);
        keptDue("a", 1, 0, "~", 1);
        keptDue("a", 1, 0, "+", 0);
        keptDue("a", 1, 0, "b", 0);
        keptDue("{a;", 3, 0, "}", 1);
        keptDue("{a;}", 3, 1, "", 1);
        keptDue("{a;}", 0, 1, "", 1);
        keptDue("{{{{{{;", 0, 1, "", 6);
        keptDue("{{{{{{;}}}}}}", 0, 0, "{", 0);
        keptDue("#\na;", 1, 1, "", 0);
        // The missing part has a fault 3 before and 2 after: the { which was too deep for it is gone.
        keptDue("{{{{{if(a){", 10, 1, "}", 0);
        keptDue("{{{{{if(a){", 10, 1, "{", 2);
        // Another equal statement, but one that was none in the old tree: there the { before it was too deep.
        keptDue("{{{{{{a;{a;}", 0, 1, "", 1);
        keptDue("a;b;", 2, 0, "#", 1);
        keptDue("a;#b;", 2, 1, "", 1);
    }

    // "the old tree has an equal one": not the tree before that, which may still be held somewhere.
    private static void keptOfTheOldTreeAlone() {
        SharedSyntax x = Check.of("if(a)");
        check.due("edit", x.edit(0, 0), true);
        check.due("all are kept", x.count(6), 2);
        Check.put(x, 0, 5, ";;   ");
        check.due("none is kept", x.count(6), 0);
        Check.put(x, 0, 5, "if(a)");
        check.due("nor of the text that was there before", x.count(6), 0);
    }

    // 12: "the statements that were kept in the latest edit (0 if there was none; going back changes nothing in that)"
    private static void keptInTheLatestEdit() {
        SharedSyntax x = new SharedSyntax();
        check.due("no edit", x.count(6), 0);
        x.undo();
        x.edit(1, 0);
        check.due("no edit but a refused one", x.count(6), 0);
        Check.put(x, 0, 0, "a;b;");
        check.due("the first edit", x.count(6), 0);
        Check.put(x, 0, 1, "x");
        check.due("the second edit", x.count(6), 1);
        check.due("undo", x.undo(), true);
        check.due("after going back", x.count(6), 1);
        check.due("edit after going back", Check.put(x, 4, 0, "c;"), true);
        check.due("kept of the text that was gone back to", x.count(6), 2);
        check.due("refused", x.edit(7, 0), false);
        check.due("after a refused edit", x.count(6), 2);
        x.undo();
        x.undo();
        check.due("at the beginning", x.undo(), false);
        check.due("at the beginning", x.count(6), 2);
        check.due("an edit that keeps none", x.edit(0, 0), true);
        check.due("an edit that keeps none", x.count(6), 0);
    }

    // 5: "The number of characters of the text."
    private static void length() {
        for (int length = 0; length <= 60; length++) {
            SharedSyntax x = Check.of(" ".repeat(length));
            check.due("length", x.length(), length);
            x.type('a');
            check.due("typing does not change it", x.length(), length);
            check.due("edit", x.edit(0, 0), length < 60);
            check.due("one more", x.length(), Math.min(60, length + 1));
        }
    }

    // 12: "how many nodes there are no two of which are equal (equal ones counted once)"
    private static void differentNodes() {
        check.due("empty", new SharedSyntax().count(3), 2);
        check.due("60 equal statements", Check.of(";".repeat(60)).count(3), 4);
        check.due("30 equal statements", Check.of("a;".repeat(30)).count(3), 5);
        check.due("no two equal", Check.of("a=1;").count(3), 8);
        check.due("blanks make a difference", Check.of("; ;").count(3), 6);
        check.due("the fault makes a difference", Check.of("(".repeat(60)).count(3), 21);
        check.due("the kind makes a difference", Check.of("if").count(3), 9);
        check.due("the place makes none", Check.of("a b b").count(3), 7);
    }

    // 12: "NONE for another number.": 0 to 7 are those that are said.
    private static void noSuchCount() {
        for (Map.Entry<String, Consumer<SharedSyntax>> state : States.all().entrySet()) {
            SharedSyntax x = new SharedSyntax();
            state.getValue().accept(x);
            for (int what : Check.outside(8)) {
                check.due(state.getKey() + ": count " + what, x.count(what), NONE);
            }
            for (int what = 0; what <= 7; what++) {
                check.due(state.getKey() + ": count " + what, x.count(what) >= 0, true);
            }
        }
    }
}
