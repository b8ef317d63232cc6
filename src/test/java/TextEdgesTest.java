/** The edges of the terms under TEXT: how many characters, which ones, and where the tokens begin and end. */
public final class TextEdgesTest {
    private static final Check check = new Check("TextEdgesTest");

    public static void main(String[] args) {
        atMostSixty();
        sixtyWhateverIsTakenOut();
        whichCharacters();
        everyCharacterAlone();
        everyCharacterBetweenNames();
        blanks();
        comments();
        longestTokens();
        words();
        theEnd();
        fullOfEveryToken();
        check.end();
    }

    private static void due(String text, String tree, String faults) {
        check.dueTree(text, tree, faults);
    }

    private static String times(int many, String piece) {
        return piece.repeat(many);
    }

    // "At most 60 characters": 60 are, 61 are not, wherever they are put in.
    private static void atMostSixty() {
        for (int have = 39; have <= 60; have++) {
            for (int put = 0; put <= 20; put++) {
                for (int start : new int[] {0, 1, have / 2, have}) {
                    SharedSyntax x = Check.of(times(have, "a"));
                    boolean room = have + put <= 60;
                    String what = put + " put in at " + start + " of " + have;
                    check.due(what, Check.put(x, start, 0, times(put, ";")), room);
                    String due = times(start, "a") + times(put, ";") + times(have - start, "a");
                    check.due(what, Check.text(x), room ? due : times(have, "a"));
                    check.due(what + ": length", x.length(), room ? have + put : have);
                }
            }
        }
    }

    // "the new text would have more than 60 characters": what is taken out makes room.
    private static void sixtyWhateverIsTakenOut() {
        for (int removed = 0; removed <= 60; removed++) {
            for (int put = 0; put <= 20; put++) {
                SharedSyntax x = Check.of(times(60, "a"));
                boolean room = put <= removed;
                String what = put + " put in for " + removed + " of 60";
                check.due(what, Check.put(x, 60 - removed, removed, times(put, "1")), room);
                check.due(what, Check.text(x), room ? times(60 - removed, "a") + times(put, "1") : times(60, "a"));
                check.due(what + ": version", x.count(4), room ? 4 : 3);
            }
        }
    }

    // "each 32 .. 126 or 10 (a newline)"; 2: "false .. when it is none of those that are said"
    private static void whichCharacters() {
        SharedSyntax x = new SharedSyntax();
        for (int c = 0; c <= 0xffff; c++) {
            boolean allowed = c == 10 || (32 <= c && c <= 126);
            if (c % 100 == 0 || allowed) {
                x = new SharedSyntax();
            }
            check.due("type " + c, x.type((char) c), allowed);
            check.due("buffer after type " + c, x.count(7), allowed ? 1 : 0);
            if (allowed) {
                check.due("edit with " + c, x.edit(0, 0), true);
                check.due("letter " + c, x.letter(0), c);
                x = new SharedSyntax();
            }
        }
    }

    /** The kind of the token that a character alone is; 0 of a blank. */
    private static int kindOf(char c) {
        if (c >= 'a' && c <= 'z') {
            return 1;
        }
        if (c >= '0' && c <= '9') {
            return 2;
        }
        switch (c) {
            case ' ': return 0;
            case '\n': return 0;
            case '#': return 0;
            case ';': return 6;
            case '{': return 7;
            case '}': return 8;
            case '(': return 9;
            case ')': return 10;
            case '+': return 11;
            case '-': return 12;
            case '*': return 13;
            case '<': return 14;
            case '=': return 15;
            default: return 16;
        }
    }

    // The list of kinds: "16 any other character alone". Those beside the ranges: / 0 9 : ` a z { and the capitals.
    private static void everyCharacterAlone() {
        String rest = " 17:)";
        for (char c = 32; c <= 126; c++) {
            switch (kindOf(c)) {
                case 0: due("" + c, "20(17:" + c + ")", ""); break;
                case 1: due("" + c, "20(24(1:" + c + " ?6)" + rest, "1/2"); break;
                case 2: due("" + c, "20(24(2:" + c + " ?6)" + rest, "1/2"); break;
                case 6: due("" + c, "20(25(6:;)" + rest, ""); break;
                case 7: due("" + c, "20(21(7:{ ?8)" + rest, "1/2"); break;
                case 9: due("" + c, "20(24(28(9:( ?1 ?10) ?6)" + rest, "1/2 1/2 1/2"); break;
                case 12: due("" + c, "20(24(27(12:- ?1) ?6)" + rest, "1/2 1/2"); break;
                default: due("" + c, "20(17:" + c + ")", "0/1"); break;
            }
        }
        due("\n", "20(17:\n)", "");
    }

    private static void everyCharacterBetweenNames() {
        for (char c = 32; c <= 126; c++) {
            String text = "a" + c + "b;";
            int kind = kindOf(c);
            if (c == '#') {
                due(text, "20(24(1:a ?6) 17:#b;)", "1/2");
            } else if (kind == 0) {
                due(text, "20(24(1:a ?6) 24(1: b 6:;) 17:)", "1/2");
            } else if (kind == 1) {
                due(text, "20(24(1:a" + c + "b 6:;) 17:)", "");
            } else if (kind == 2) {
                due(text, "20(24(1:a ?6) 24(2:" + c + " ?6) 24(1:b 6:;) 17:)", "1/2 2/2");
            } else if (kind == 6) {
                due(text, "20(24(1:a 6:;) 24(1:b 6:;) 17:)", "");
            } else if (kind == 7) {
                due(text, "20(24(1:a ?6) 21(7:{ 24(1:b 6:;) ?8) 17:)", "1/2 4/2");
            } else if (kind == 9) {
                due(text, "20(24(1:a ?6) 24(28(9:( 1:b ?10) 6:;) 17:)", "1/2 3/2");
            } else if (kind >= 11 && kind <= 15) {
                due(text, "20(24(26(1:a " + kind + ":" + c + " 1:b) 6:;) 17:)", "");
            } else {
                due(text, "20(24(1:a ?6) 24(1:" + c + "b 6:;) 17:)", "1/2 1/1");
            }
        }
        due("(a)b;", "20(24(28(9:( 1:a 10:)) ?6) 24(1:b 6:;) 17:)", "3/2");
        due("{a}b;", "20(21(7:{ 24(1:a ?6) 8:}) 24(1:b 6:;) 17:)", "2/2");
    }

    // "BLANKS first (any number of spaces, newlines, and of comments ..)"
    private static void blanks() {
        due("a;", "20(24(1:a 6:;) 17:)", "");
        due(" a\n;", "20(24(1: a 6:\n;) 17:)", "");
        due("\n \n a\n\n ;", "20(24(1:\n \n a 6:\n\n ;) 17:)", "");
        due(times(60, " "), "20(17:" + times(60, " ") + ")", "");
        due(times(60, "\n"), "20(17:" + times(60, "\n") + ")", "");
        due(times(59, " ") + ";", "20(25(6:" + times(59, " ") + ";) 17:)", "");
        due(";" + times(59, "\n"), "20(25(6:;) 17:" + times(59, "\n") + ")", "");
        due("1 2", "20(24(2:1 ?6) 24(2: 2 ?6) 17:)", "1/2 3/2");
        due("i f", "20(24(1:i ?6) 24(1: f ?6) 17:)", "1/2 3/2");
    }

    // "comments: # and what is behind it up to, but without, the next newline or the end"
    private static void comments() {
        due("#", "20(17:#)", "");
        due("#\n", "20(17:#\n)", "");
        due("#\n;", "20(25(6:#\n;) 17:)", "");
        due("#;\n;", "20(25(6:#;\n;) 17:)", "");
        due("#;#;\n;", "20(25(6:#;#;\n;) 17:)", "");
        due("#;\n#;\n;", "20(25(6:#;\n#;\n;) 17:)", "");
        due("#;\n\n;#;", "20(25(6:#;\n\n;) 17:#;)", "");
        due("a#b\nc;", "20(24(1:a ?6) 24(1:#b\nc 6:;) 17:)", "1/2");
        due("a#b c;", "20(24(1:a ?6) 17:#b c;)", "1/2");
        due("1#\n1;", "20(24(2:1 ?6) 24(2:#\n1 6:;) 17:)", "1/2");
        due("#~\n~;", "20(25(6:#~\n~;) 17:)", "3/1");
        due("~#~\n;", "20(25(6:~#~\n;) 17:)", "0/1");
        due("#" + times(59, "a"), "20(17:#" + times(59, "a") + ")", "");
        due("#" + times(57, ";") + "\n;", "20(25(6:#" + times(57, ";") + "\n;) 17:)", "");
        due(times(59, ";") + "#", "20(" + times(59, "25(6:;) ") + "17:#)", "");
        // A newline that goes puts what is behind it into the comment, and back.
        SharedSyntax x = Check.of("#a\nb;");
        x.edit(2, 1);
        check.due("without the newline", Check.tree(x), "20(17:#ab;)");
        Check.put(x, 1, 0, "\n");
        check.due("with another", Check.tree(x), "20(24(1:#\nab 6:;) 17:)");
        x.edit(0, 1);
        check.due("without the #", Check.tree(x), "20(24(1:\nab 6:;) 17:)");
    }

    // "as many as there are"
    private static void longestTokens() {
        due(times(60, "z"), "20(24(1:" + times(60, "z") + " ?6) 17:)", "60/2");
        due(times(60, "9"), "20(24(2:" + times(60, "9") + " ?6) 17:)", "60/2");
        due("if" + times(58, "f"), "20(24(1:if" + times(58, "f") + " ?6) 17:)", "60/2");
        due(times(55, "a") + "while", "20(24(1:" + times(55, "a") + "while ?6) 17:)", "60/2");
        due(times(59, "0") + ";", "20(24(2:" + times(59, "0") + " 6:;) 17:)", "");
        due("az" + times(29, "0") + times(29, "9"),
            "20(24(1:az ?6) 24(2:" + times(29, "0") + times(29, "9") + " ?6) 17:)", "2/2 60/2");
        due("zz;;", "20(24(1:zz 6:;) 25(6:;) 17:)", "");
        due("==", "20(17:==)", "0/1 1/1");
    }

    // "3 if 4 else 5 while (only as a whole run of small letters)"
    private static void words() {
        String[] names = {
            "i", "f", "fi", "iff", "iif", "aif", "ifa", "ifif", "ifelse", "els", "lse", "elsee", "eelse", "elseif", "xelse",
            "whil", "hile", "whilee", "wwhile", "whileif", "elsewhile", "whi", "el", "elsf", "ifz", "zif", "whilf",
        };
        for (String name : names) {
            due(name + ";", "20(24(1:" + name + " 6:;) 17:)", "");
        }
        for (String word : new String[] {"if", "else", "while"}) {
            for (int i = 0; i < word.length(); i++) {
                String name = word.substring(0, i) + (char) (word.charAt(i) + 1) + word.substring(i + 1);
                due(name + ";", "20(24(1:" + name + " 6:;) 17:)", "");
            }
        }
        due("if", "20(22(3:if ?9 ?1 ?10 25(?6)) 17:)", "2/2 2/2 2/2 2/2");
        due("while", "20(23(5:while ?9 ?1 ?10 25(?6)) 17:)", "5/2 5/2 5/2 5/2");
        due("else", "20(17:else)", "0/1");
        due("1if1;", "20(24(2:1 ?6) 22(3:if ?9 2:1 ?10 25(6:;)) 17:)", "1/2 3/2 4/2");
        due("Aif;", "20(22(3:Aif ?9 ?1 ?10 25(6:;)) 17:)", "0/1 3/2 3/2 3/2");
        due("ifA;", "20(22(3:if ?9 ?1 ?10 25(?6)) 25(6:A;) 17:)", "2/2 2/2 2/2 2/2 2/1");
        due("IF;", "20(25(6:IF;) 17:)", "0/1 1/1");
        due("If;", "20(24(1:If 6:;) 17:)", "0/1");
        due("eLse;", "20(24(1:e ?6) 24(1:Lse 6:;) 17:)", "1/2 1/1");
        due("if\nelse\nwhile;", "20(22(3:if ?9 ?1 ?10 25(?6) 4:\nelse 23(5:\nwhile ?9 ?1 ?10 25(6:;))) 17:)",
            "2/2 2/2 2/2 2/2 13/2 13/2 13/2");
        // A letter put in or taken out makes a word of a name and a name of a word.
        SharedSyntax x = Check.of("iff;");
        x.edit(2, 1);
        check.due("a word", Check.tree(x), "20(22(3:if ?9 ?1 ?10 25(6:;)) 17:)");
        Check.put(x, 0, 0, "e");
        check.due("a name", Check.tree(x), "20(24(1:eif 6:;) 17:)");
        Check.put(x, 1, 0, "1");
        check.due("a name and a word", Check.tree(x), "20(24(1:e ?6) 24(2:1 ?6) 22(3:if ?9 ?1 ?10 25(6:;)) 17:)");
    }

    private static void endDue(String text, int begin, int faults) {
        SharedSyntax x = Check.of(text);
        int end = x.count(0) - 1;
        int length = text.length();
        int[] due = {17, begin, length - begin, length, 0, 0, 0, faults, 1};
        for (int what = 0; what <= 8; what++) {
            check.due("END of " + text + ": " + what, x.node(end, what), due[what]);
        }
        check.due("the END is found in " + text, x.find(length), end);
        check.due("the END is the last child in " + text, x.child(0, x.node(0, 4) - 1), end);
    }

    // "17 the END, behind the last one, which has no character."
    private static void theEnd() {
        endDue("", 0, 0);
        endDue(" ", 0, 0);
        endDue("\n#", 0, 0);
        endDue("a", 1, 0);
        endDue("a;  ", 2, 0);
        endDue("a; ) \n", 2, 1);
        endDue("))", 0, 2);
        endDue("{ ) ~ ", 1, 2);
        endDue(times(60, ";"), 60, 0);
        endDue(times(59, ";") + " ", 59, 0);
        endDue(times(60, "="), 0, 60);
    }

    // As many tokens as there can be: 60 of one character, and the END.
    private static void fullOfEveryToken() {
        due(times(60, ";"), "20(" + times(60, "25(6:;) ") + "17:)", "");
        SharedSyntax x = Check.of(times(20, "a1;"));
        check.due("leaves", x.count(1), 20 * 4 + 1);
        check.due("nodes", x.count(0), 1 + 20 * 6 + 1);
        check.due("faults", x.count(2), 20);
        SharedSyntax skipped = Check.of(times(60, "~"));
        check.due("nodes of skipped tokens", skipped.count(0), 2);
        check.due("faults of skipped tokens", skipped.count(2), 60);
        check.due("the first of them", skipped.fault(0), 1);
        check.due("the last of them", skipped.fault(59), 4 * 59 + 1);
        check.due("behind the last of them", skipped.fault(60), SharedSyntax.NONE);
    }
}
