/** Term 1, THE SOURCE: each sentence that names a boundary of the words, the items, the nesting and the names. */
public final class Term1SourceTest {
    private static final String ROOM = "room r \"R\" {} ";
    private static final String HEAD = ROOM + "var x = 1; array a[2]; def f(p) {} each { ";
    private static final String[] KEYS = ("alone all and any array dark def done down each east else exit first has here holder if in let lose "
            + "move name next noun north not on one or player random remove return room say second set clear south text thing to two up var "
            + "verb west while win word container fixed hidden light open supporter").split(" ");
    private static final String[] ATTRIBUTES = {"container", "fixed", "hidden", "light", "open", "supporter"};
    private static final String[] DIRECTIONS = {"north", "south", "east", "west", "up", "down"};
    private static final String[] OWN_VERBS = "look inventory wait take drop examine open close putin puton go".split(" ");

    public static void main(String[] args) {
        wordsArePartedOrSideBySide();
        remarks();
        nameBytes();
        bytesThatAreNoWord();
        numbers();
        strings();
        signs();
        keys();
        keysInTheirPlaces();
        directions();
        itemsOrNone();
        rooms();
        things();
        verbs();
        varsAndArrays();
        routines();
        statements();
        expressions();
        nestingOfEachKind();
        nestingOfMany();
        nestingThatEnds();
        differentNames();
        namesOfLetAndList();
        whatCountsOfParts();
        whatObjectsAre();
        Bench.end();
    }

    /** In an each: a word that does not fit there. */
    private static void fitsNot(String statement, int place) {
        Bench.fault(HEAD + statement + " }", 2, HEAD.length() + place);
    }

    private static void fits(String statement) {
        Bench.builds(HEAD + statement + " }");
    }

    private static void wordsArePartedOrSideBySide() {
        Bench.about("Term 1: WORDS are parted by 32 and 10, or stand side by side (12ab is a NUMBER and a NAME)");
        Bench.builds("room r\"R\"{}var x=12;array y[1];each{say 1or 0,x+1in 3,y[0]*x;}");
        Bench.builds("\n room\nr  \n\"R\"\n{\n}\n ");
        fitsNot("say 12ab;", 6);
        fitsNot("say 12 ab;", 7);
        fitsNot("say 1\n2;", 6);
        fits("say 12or 1,12in 1,12has open;");
        fitsNot("say 12or1;", 6);
        Bench.fault("roomr \"R\" {}", 2, 0);
        Bench.fault("room r \"R\" {} var ab 12 = 1;", 2, 21);
        Bench.builds("room r \"R\" {} var ab12 = 1;");
    }

    private static void remarks() {
        Bench.about("Term 1: from # up to the next 10 nothing counts (but in a STRING)");
        Bench.builds("#\nroom r \"R\" {}");
        Bench.builds("room#x \" ! }\nr#\n\"R\"# # #\n{}#");
        Bench.builds(ROOM + "# { ! 99999 \" to the end");
        Bench.fault("# " + ROOM, 6, 2 + ROOM.length());
        Bench.fault(ROOM + "# a\n!", 1, ROOM.length() + 4);
        Bench.same("in a STRING", "a#b\n", Bench.playing("room r \"a#b\" {}").out());
    }

    private static void nameBytes() {
        Bench.about("Term 1: a NAME is a small letter, then small letters and figures, 12 bytes at most");
        Bench.builds(ROOM + "var a = 1; var z9 = 1; var abcdefghijkl = 1; var a12345678901 = 1;");
        Bench.fault(ROOM + "var abcdefghijklm = 1;", 1, 18);
        Bench.fault(ROOM + "var a123456789012 = 1;", 1, 18);
        Bench.fault(ROOM + "var " + "q".repeat(500) + " = 1;", 1, 18);
        Bench.fault(ROOM + "abcdefghijklm", 1, 14);
        Bench.fault(ROOM + "var aB = 1;", 1, 19);
        Bench.fault(ROOM + "var Ab = 1;", 1, 18);
        Bench.fault(ROOM + "var a_b = 1;", 1, 19);
        Bench.fault(ROOM + "var 1a = 1;", 2, 18);
        Bench.about("Term 1: all 12 bytes of a NAME tell it from others");
        Bench.same("the last byte", "1 12", Bench.worth("var abcdefghijk1 = 1; var abcdefghijk2 = 2;", "abcdefghijk1, abcdefghijk2"));
        Bench.same("one is the other's beginning", "1 123", Bench.worth("var a = 1; var a0 = 2; var aa = 3;", "a, a0, aa"));
    }

    private static void bytesThatAreNoWord() {
        Bench.about("Term 1: fault 1 at a byte that can't be");
        for (char c = 33; c < 127; c++) {
            if (c >= 'a' && c <= 'z' || c >= '0' && c <= '9' || "{}()[];,=<>+-*/%".indexOf(c) >= 0) {
                Bench.fault(ROOM + c, 2, 14);
            } else if (c == '#') {
                Bench.builds(ROOM + c);
            } else {
                Bench.fault(ROOM + c, 1, 14);
            }
        }
    }

    private static void numbers() {
        Bench.about("Term 1: a NUMBER is 0 .. 32767 (as many figures as they are)");
        Bench.same("the least and the most", "1 0 32767", Bench.worth("", "0, \" \", 32767"));
        Bench.same("many figures", "1 0 7 32767", Bench.worth("", "0".repeat(500) + ", \" \", " + "0".repeat(900) + "7, \" \", 0032767"));
        for (String tooMuch : new String[] {"32768", "40000", "65535", "65536", "65541", "2147483648", "4294967296", "4294967301",
            "18446744073709551616", "18446744073709551617", "9".repeat(300), "0032768"}) {
            Bench.fault(ROOM + "var x = " + tooMuch + ";", 1, 22);
            Bench.fault(HEAD + "say " + tooMuch + "; }", 1, HEAD.length() + 4);
        }
        Bench.builds(ROOM + "var x = -32767;");
        Bench.fault(ROOM + "var x = -32768;", 1, 23);
    }

    private static void strings() {
        Bench.about("Term 1: a STRING has up to 200 bytes 32 .. 126 other than \", and is ended");
        for (int n : new int[] {0, 1, 2, 199, 200}) {
            Bench.same(n + " bytes", "x".repeat(n) + "\n", Bench.playing("room r \"" + "x".repeat(n) + "\" {}").out());
        }
        Bench.fault("room r \"" + "x".repeat(201) + "\" {}", 1, 7);
        Bench.fault("room r \"" + "x".repeat(1000) + "\" {}", 1, 7);
        Bench.fault("room r \"a\nb\" {}", 1, 7);
        Bench.fault("room r \"\n\" {}", 1, 7);
        Bench.fault("room r \"", 1, 7);
        Bench.fault("room r \"abc {}", 1, 7);
        Bench.fault("room r \"" + "x".repeat(200), 1, 7);
        Bench.fault("room r \"" + "x".repeat(200) + "\n\" {}", 1, 7);
        StringBuilder all = new StringBuilder();
        for (char c = 32; c < 127; c++) {
            all.append(c == '"' || c == '^' ? ' ' : c);
        }
        Bench.same("each byte", all + "\n", Bench.playing("room r \"" + all + "\" {}").out());
        Bench.about("Term 1: ^ in a STRING is a new line");
        Bench.same("carets", "\na\n\nb\n\n", Bench.playing("room r \"^a^^b^\" {}").out());
        Bench.same("200 carets", "\n".repeat(201), Bench.playing("room r \"" + "^".repeat(200) + "\" {}").out());
        Bench.fault("room r \"" + "^".repeat(201) + "\" {}", 1, 7);
    }

    private static void signs() {
        Bench.about("Term 1: of SIGNS the longest that is there");
        Bench.same("two bytes each", "1 1011", Bench.worth("", "1<=1, 1>=2, 1==1, 1!=2"));
        Bench.same("one byte each", "1 10", Bench.worth("", "1<2, 1>2"));
        fitsNot("say 1===1;", 7);
        fitsNot("say 1<==1;", 7);
        fitsNot("say 1<>1;", 6);
        fitsNot("say 1=>1;", 5);
        fitsNot("say 1= =1;", 5);
        fitsNot("say 1< =1;", 7);
        fits("x=-1;");
        fits("say x==-1;");
        Bench.fault(HEAD + "say 1!1; }", 1, HEAD.length() + 5);
        Bench.fault(HEAD + "say 1! =1; }", 1, HEAD.length() + 5);
        Bench.fault(HEAD + "say 1!!=1; }", 1, HEAD.length() + 5);
        Bench.fault(HEAD + "say 1!", 1, HEAD.length() + 5);
    }

    private static void keys() {
        Bench.about("Term 1: KEYS are no names");
        Bench.same("keys", 57, KEYS.length);
        for (String key : KEYS) {
            Bench.fault("room " + key + " \"R\" {}", 2, 5);
            Bench.fault(ROOM + "thing t \"T\" { word " + key + "; }", 2, 33);
            Bench.fault(ROOM + "each { let " + key + " = 1; }", 2, 25);
            Bench.builds("room " + key + "x \"R\" {}");
            Bench.builds("room " + key + "1 \"R\" {}");
            Bench.builds("room " + key.substring(0, key.length() - 1) + "qqq \"R\" {}");
        }
        for (String free : "me it the a an again g n s attribute in2 go2 room2 yourself".split(" ")) {
            Bench.builds("room " + free + " \"R\" {} thing t \"T\" { word " + free + "; }");
        }
    }

    private static boolean isOne(String key, String... ones) {
        for (String one : ones) {
            if (one.equals(key)) {
                return true;
            }
        }
        return false;
    }

    /** Of what is ahead, a key, and what is behind: it builds, or the fault is at the key or so many bytes behind its end. */
    private static void keyBetween(String ahead, String key, String behind, boolean fits, int behindEnd) {
        if (fits) {
            Bench.builds(ahead + key + behind);
        } else {
            Bench.fault(ahead + key + behind, 2, ahead.length() + (behindEnd < 0 ? 0 : key.length() + behindEnd));
        }
    }

    private static void keysInTheirPlaces() {
        Bench.about("Term 1: each key in its place alone (DIRECTION, ATTRIBUTE, WHAT, FORM, part, statement, primary)");
        for (String key : KEYS) {
            keyBetween("room r \"R\" { exit ", key, " r; }", isOne(key, DIRECTIONS), -1);
            keyBetween("room r \"R\" { ", key, "; }", key.equals("dark"), isOne(key, "text", "exit") ? 0 : -1);
            keyBetween(ROOM + "thing t \"T\" { ", key, "; }", isOne(key, ATTRIBUTES), isOne(key, "text", "in", "word") ? 0 : -1);
            keyBetween(ROOM + "thing t \"T\" { in ", key, "; }", key.equals("player"), -1);
            keyBetween(ROOM + "verb v v ", key, ";", isOne(key, "alone", "one"), key.equals("two") ? 0 : -1);
            keyBetween(ROOM + "verb v v two ", key, ";", false, -1);
            keyBetween(ROOM + "on go ", key, " ;", false, isOne(key, "any", "player") || isOne(key, DIRECTIONS) ? 1 : -1);
            keyBetween(ROOM + "on putin any ", key, " ;", false, isOne(key, "any", "player") || isOne(key, DIRECTIONS) ? 1 : -1);
            keyBetween(ROOM, key, "", false, isOne(key, "room", "thing", "verb", "var", "array", "def", "on", "each") ? 0 : -1);
            keyBetween(HEAD + "x = 1 has ", key, "; }", isOne(key, ATTRIBUTES), -1);
            for (String word : new String[] {"set 1 ", "clear 1 "}) {
                keyBetween(HEAD + word, key, "; }", isOne(key, ATTRIBUTES), isOne(key, "and", "or", "in", "has") ? 0 : -1);
            }
            boolean begins = isOne(key, "say", "let", "move", "remove", "set", "clear", "if", "while", "return");
            keyBetween(HEAD, key, "; }", isOne(key, "done", "win", "lose"), begins ? 0 : -1);
            boolean isAhead = isOne(key, "holder", "first", "next", "random");
            boolean isNumber = isOne(key, "here", "noun", "second", "player");
            keyBetween(HEAD + "x = ", key, "; }", isNumber, isAhead || key.equals("not") ? 0 : -1);
            keyBetween(HEAD + "x = -", key, "; }", isNumber, isAhead ? 0 : -1);
            keyBetween(HEAD + "x = holder ", key, "; }", isNumber, isAhead ? 0 : -1);
            keyBetween(HEAD + "say ", key, "; }", isNumber, isAhead || isOne(key, "not", "name") ? 0 : -1);
            keyBetween(HEAD + "x = 1 ", key, " 1; }", isOne(key, "and", "or", "in"), key.equals("has") ? 1 : -1);
            keyBetween(HEAD + "move 1 ", key, " 2; }", key.equals("to"), key.equals("has") ? 1 : isOne(key, "and", "or", "in") ? 2 : -1);
            keyBetween(HEAD + "if 1 {} ", key, " {} }", key.equals("else"), begins ? 1 : isOne(key, "done", "win", "lose") ? 1 : -1);
        }
    }

    private static void directions() {
        Bench.about("Term 1: DIRECTIONS are north, south, east, west, up, down, in this order 1 .. 6");
        StringBuilder story = new StringBuilder("room r \"R\" {");
        for (int i = 0; i < 6; i++) {
            story.append(" exit ").append(DIRECTIONS[i]).append(" r").append(i).append(";");
        }
        story.append(" } ");
        for (int i = 0; i < 6; i++) {
            story.append("room r").append(i).append(" \"R").append(i).append("\" {} ");
            story.append("on go ").append(DIRECTIONS[i]).append(" { say \"on \", ").append(i + 1).append(", \"^\"; } ");
        }
        story.append("on go any { say noun, second, \"^\"; }");
        for (int i = 0; i < 6; i++) {
            Bench bench = Bench.playing(story.toString());
            Bench.same(DIRECTIONS[i], "1 on " + (i + 1) + "\n" + (i + 1) + "0\nR" + i + "\n", bench.play(DIRECTIONS[i]));
            Bench.same("room of " + DIRECTIONS[i], 3 + i, bench.house.holder(1));
        }
    }

    private static void itemsOrNone() {
        Bench.about("Term 1: a source has items, one behind the other, or none");
        Bench.fault("", 6, 0);
        Bench.fault(" \n ", 6, 3);
        Bench.fault("#", 6, 1);
        for (String none : new String[] {"text", "say", "r", "12", "\"R\"", ";", "{", "}", "exit", "let"}) {
            Bench.fault(ROOM + none, 2, 14);
            Bench.fault(none, 2, 0);
        }
    }

    private static void rooms() {
        Bench.about("Term 1: room NAME STRING { parts, or none }");
        Bench.builds("room r \"R\" {}");
        Bench.builds("room r \"R\" { text \"\"; dark; exit north r; exit south r; exit east r; exit west r; exit up r; exit down r; }");
        Bench.fault("room", 2, 4);
        Bench.fault("room ", 2, 5);
        Bench.fault("room r", 2, 6);
        Bench.fault("room r \"R\"", 2, 10);
        Bench.fault("room r \"R\" {", 2, 12);
        Bench.fault("room r \"R\" ;", 2, 11);
        Bench.fault("room r \"R\" {};", 2, 13);
        Bench.fault("room \"R\" {}", 2, 5);
        Bench.fault("room player \"R\" {}", 2, 5);
        Bench.fault("room r \"R\" { dark }", 2, 18);
        Bench.fault("room r \"R\" { ; }", 2, 13);
        Bench.fault("room r \"R\" { text; }", 2, 17);
        Bench.fault("room r \"R\" { exit r r; }", 2, 18);
        Bench.fault("room r \"R\" { exit up; }", 2, 20);
        Bench.fault("room r \"R\" { exit up player; }", 2, 21);
        Bench.fault("room r \"R\" { exit up r, down r; }", 2, 22);
        for (String attribute : ATTRIBUTES) {
            Bench.fault("room r \"R\" { " + attribute + "; }", 2, 13);
        }
        Bench.fault("room r \"R\" { in r; }", 2, 13);
        Bench.fault("room r \"R\" { word r; }", 2, 13);
    }

    private static void things() {
        Bench.about("Term 1: thing NAME STRING { parts, or none }");
        Bench.builds(ROOM + "thing t \"T\" {}");
        Bench.builds(ROOM + "thing t \"T\" { text \"\"; in r; in player; word a; word b, c, d; container; fixed; hidden; light; open; supporter; }");
        Bench.fault("thing t \"T\" { dark; }", 2, 14);
        Bench.fault("thing t \"T\" { exit up r; }", 2, 14);
        Bench.fault("thing t \"T\" { word; }", 2, 18);
        Bench.fault("thing t \"T\" { word a,; }", 2, 21);
        Bench.fault("thing t \"T\" { word a b; }", 2, 21);
        Bench.fault("thing t \"T\" { word player; }", 2, 19);
        Bench.fault("thing t \"T\" { in; }", 2, 16);
        Bench.fault("thing t \"T\" { in 2; }", 2, 17);
        Bench.fault("thing t \"T\" { in here; }", 2, 17);
        Bench.fault("thing t \"T\" { open, light; }", 2, 18);
        Bench.fault("thing t \"T\" { text \"a\", \"b\"; }", 2, 22);
    }

    private static void verbs() {
        Bench.about("Term 1: verb NAME NAMES, parted by , FORM ; FORM: alone, one, or two NAME");
        Bench.builds(ROOM + "verb v v alone; verb w a, b, c one; verb y a two a;");
        Bench.fault("verb v alone;", 2, 7);
        Bench.fault("verb v one;", 2, 7);
        Bench.fault("verb v v;", 2, 8);
        Bench.fault("verb v v, alone;", 2, 10);
        Bench.fault("verb v v v alone;", 2, 9);
        Bench.fault("verb v v alone a;", 2, 15);
        Bench.fault("verb v v one a;", 2, 13);
        Bench.fault("verb v v two;", 2, 12);
        Bench.fault("verb v v two in;", 2, 13);
        Bench.fault("verb v v two a b;", 2, 15);
        Bench.fault("verb v v any;", 2, 9);
        Bench.fault("verb v in alone;", 2, 7);
        Bench.fault("verb v v alone", 2, 14);
    }

    private static void varsAndArrays() {
        Bench.about("Term 1: var NAME = NUMBER ; or with - before the NUMBER; array NAME [ NUMBER ] ;");
        Bench.same("the numbers", "1 -32767 32767 0 0", Bench.worth("var x = -32767; var y = 32767; var z = 0; var w = - 0;",
                "x, \" \", y, \" \", z, \" \", w"));
        Bench.fault("var x;", 2, 5);
        Bench.fault("var x = ;", 2, 8);
        Bench.fault("var x = y;", 2, 8);
        Bench.fault("var x = (1);", 2, 8);
        Bench.fault("var x = --1;", 2, 9);
        Bench.fault("var x = +1;", 2, 8);
        Bench.fault("var x = 1 + 1;", 2, 10);
        Bench.fault("var x == 1;", 2, 6);
        Bench.fault("var x = 1, y = 2;", 2, 9);
        Bench.fault("array a;", 2, 7);
        Bench.fault("array a[];", 2, 8);
        Bench.fault("array a[-1];", 2, 8);
        Bench.fault("array a[x];", 2, 8);
        Bench.fault("array a[1] = 2;", 2, 11);
        Bench.fault("array a(1);", 2, 7);
    }

    private static void routines() {
        Bench.about("Term 1: def NAME ( NAMES, parted by , or none ) block; on NAME with up to two WHATs; each block");
        Bench.builds(ROOM + "def f() {} def g(a) {} def h(a, b) {} each {}");
        Bench.builds(ROOM + "on look {} on take any {} on take player {} on putin any player {} on putin player any {} on go north {} on go any {}");
        Bench.fault("def f {}", 2, 6);
        Bench.fault("def f(,) {}", 2, 6);
        Bench.fault("def f(a,) {}", 2, 8);
        Bench.fault("def f(a b) {}", 2, 8);
        Bench.fault("def f(1) {}", 2, 6);
        Bench.fault("def f(player) {}", 2, 6);
        Bench.fault("def f();", 2, 7);
        Bench.fault("on {}", 2, 3);
        Bench.fault("on any {}", 2, 3);
        Bench.fault("on player {}", 2, 3);
        Bench.fault("on open {}", 2, 3);
        Bench.fault("on take here {}", 2, 8);
        Bench.fault("on take 1 {}", 2, 8);
        Bench.fault("on take open {}", 2, 8);
        Bench.fault("on take any, any {}", 2, 11);
        Bench.fault("on putin any any any {}", 2, 17);
        Bench.fault("on putin any any", 2, 16);
        Bench.fault("each any {}", 2, 5);
        Bench.fault("each {} {}", 2, 8);
        Bench.fault("each", 2, 4);
        Bench.fault("each {", 2, 6);
    }

    private static void statements() {
        Bench.about("Term 1: statement");
        fits("");
        fits("say \"a\"; say 1; say name 1; say \"a\", 1, name player, name holder player, name (1 + 0), name f(1), name a[0];");
        fits("let y = 1; x = 1; a[0] = 1; move 1 to 2; remove 1; set 1 light; clear 1 light; done; win; lose; f(1);");
        fits("if 1 {} if 1 {} else {} if 1 {} else if 1 {} if 1 {} else if 1 {} else {} while 1 {} while 0 { while 0 {} }");
        fitsNot("say;", 3);
        fitsNot("say 1,;", 6);
        fitsNot("say 1 2;", 6);
        fitsNot("say (\"a\");", 5);
        fitsNot("say name \"a\";", 9);
        fitsNot("say name -1;", 9);
        fitsNot("say name 1 + 2;", 11);
        fitsNot("say name not 1;", 9);
        fitsNot("say -name 1;", 5);
        fitsNot("let x1;", 6);
        fitsNot("let a[0] = 1;", 5);
        fitsNot("let player = 1;", 4);
        fitsNot("x = 1", 6);
        fitsNot("x;", 1);
        fitsNot("x == 1;", 2);
        fitsNot("here = 1;", 0);
        fitsNot("a[0];", 4);
        fitsNot("a[] = 1;", 2);
        fitsNot("a[0, 1] = 1;", 3);
        fitsNot("a[0][1] = 1;", 4);
        fitsNot("f(1) = 1;", 5);
        fitsNot("f(1) + 1;", 5);
        fitsNot("f(,);", 2);
        fitsNot("f(1,);", 4);
        fitsNot("(f(1));", 0);
        fitsNot("move 1;", 6);
        fitsNot("move 1 2;", 7);
        fitsNot("move to 2;", 5);
        fitsNot("remove;", 6);
        fitsNot("set 1 to 2;", 6);
        fitsNot("set 1;", 5);
        fitsNot("set light;", 4);
        fitsNot("set 1 dark;", 6);
        fitsNot("clear 1 dark;", 8);
        fitsNot("return;", 6);
        fitsNot("done 1;", 5);
        fitsNot("win 1;", 4);
        fitsNot("lose 1;", 5);
        fitsNot("if {}", 3);
        fitsNot("if 1 x = 1;", 5);
        fitsNot("if 1 {} else x = 1;", 13);
        fitsNot("if 1 {} else while 1 {}", 13);
        fitsNot("if 1 {} else {} else {}", 16);
        fitsNot("if 1 {};", 7);
        fitsNot("else {}", 0);
        fitsNot("while {}", 6);
        fitsNot("while 1;", 7);
        fitsNot("while 1 {} else {}", 11);
        fitsNot(";", 0);
        fitsNot("{}", 0);
        fitsNot("1;", 0);
        fitsNot("\"a\";", 0);
        fitsNot("each {}", 0);
        Bench.builds(ROOM + "def f() { return 1; return 1 + 2; }");
        Bench.fault(ROOM + "def f() { return; }", 2, 30);
    }

    private static void expressions() {
        Bench.about("Term 1: expression, comparison, primary");
        fits("x = 1 or 1 and not 1 or not not 1;");
        fits("x = (1 == 2) == 3; x = (1 in 2) in 3; x = (1 has open) has open;");
        fits("x = 1 + 1 == 2 - 2; x = 1 * 2 in 3 / 4; x = 1 + 2 has open;");
        fits("x = here; x = noun; x = second; x = player; x = holder first next random here; x = - - 1; x = 1 - - 1;");
        fits("x = holder f(1); x = holder a[0]; x = holder (1); x = holder r;");
        fitsNot("x = 1 == 2 == 3;", 11);
        fitsNot("x = 1 < 2 > 3;", 10);
        fitsNot("x = 1 in 2 in 3;", 11);
        fitsNot("x = 1 in 2 == 3;", 11);
        fitsNot("x = 1 has open has open;", 15);
        fitsNot("x = 1 has open == 1;", 15);
        fitsNot("x = 1 == 2 has open;", 11);
        fitsNot("x = 1 has dark;", 10);
        fitsNot("x = 1 has 1;", 10);
        fitsNot("x = 1 == not 2;", 9);
        fitsNot("x = 1 + not 2;", 8);
        fitsNot("x = - not 2;", 6);
        fitsNot("x = holder -1;", 11);
        fitsNot("x = holder not 1;", 11);
        fitsNot("x = holder;", 10);
        fitsNot("x = random;", 10);
        fitsNot("x = first 1 2;", 12);
        fitsNot("x = 1 or;", 8);
        fitsNot("x = and 1;", 4);
        fitsNot("x = 1 +;", 7);
        fitsNot("x = + 1;", 4);
        fitsNot("x = * 1;", 4);
        fitsNot("x = 1 * * 1;", 8);
        fitsNot("x = ();", 5);
        fitsNot("x = (1;", 6);
        fitsNot("x = 1);", 5);
        fitsNot("x = (1, 2);", 6);
        fitsNot("x = f(1;", 7);
        fitsNot("x = a[1;", 7);
        fitsNot("x = a[];", 6);
        fitsNot("x = \"a\";", 4);
        fitsNot("x = name 1;", 4);
        fitsNot("x = north;", 4);
        fitsNot("x = any;", 4);
        fitsNot("x = ;", 4);
    }

    private static void nestingOfEachKind() {
        Bench.about("Term 1: each of { ( [ not - holder first next random nests 30 deep at most, the 31st is fault 5 at it");
        String[][] ways = {{"(", ")"}, {"-", ""}, {"f(", ")"}, {"a[", "]"}, {"holder ", ""}, {"first ", ""}, {"next ", ""},
            {"random ", ""}, {"not ", ""}};
        for (String[] way : ways) {
            int word = way[0].startsWith("f") && way[0].length() == 2 || way[0].startsWith("a") ? 1 : 0;
            fits("x=" + way[0].repeat(29) + "1" + way[1].repeat(29) + ";");
            for (int n : new int[] {30, 31, 60}) {
                Bench.fault(HEAD + "x=" + way[0].repeat(n) + "1" + way[1].repeat(n) + "; }", 5,
                        HEAD.length() + 2 + 29 * way[0].length() + word);
            }
            fitsNot("x=" + way[0].repeat(29) + ";", 2 + 29 * way[0].length());
        }
        Bench.fault(HEAD + "f(" + "(".repeat(29) + "1" + ")".repeat(29) + "); }", 5, HEAD.length() + 2 + 28);
        Bench.fault(HEAD + "a[" + "(".repeat(29) + "1" + ")".repeat(29) + "] = 1; }", 5, HEAD.length() + 2 + 28);
        fits("f(" + "(".repeat(28) + "1" + ")".repeat(28) + ");");
        fits("a[" + "(".repeat(28) + "1" + ")".repeat(28) + "] = 1;");
        fits("if 1 {".repeat(29) + "}".repeat(29));
        Bench.fault(HEAD + "if 1 {".repeat(30) + "}".repeat(30) + " }", 5, HEAD.length() + 29 * 6 + 5);
        fits("while 0 {".repeat(29) + "}".repeat(29));
        Bench.fault(HEAD + "while 0 {".repeat(30) + "}".repeat(30) + " }", 5, HEAD.length() + 29 * 9 + 8);
        fits("if 1 {} else {".repeat(29) + "}".repeat(29));
        Bench.fault(HEAD + "if 1 {} else {".repeat(29) + "if 1 {}" + "}".repeat(29) + " }", 5, HEAD.length() + 29 * 14 + 5);
        fits("say name " + "(".repeat(29) + "1" + ")".repeat(29) + ";");
        Bench.builds(ROOM + "def f() { return " + "(".repeat(29) + "1" + ")".repeat(29) + "; }");
        Bench.fault(ROOM + "def f() { return " + "(".repeat(30) + "1" + ")".repeat(30) + "; }", 5, 31 + 29);
    }

    private static void nestingOfMany() {
        Bench.about("Term 1: all that stand open nest together, each counting one");
        String mixed = "not - holder first next random f(a[(";
        String closed = ")])";
        Bench.builds(HEAD + "x = " + "not (".repeat(10) + mixed + "1" + closed + ")".repeat(10) + "; }");
        String eleven = HEAD + "x = " + "not (".repeat(11) + mixed + "1" + closed + ")".repeat(11) + "; }";
        Bench.fault(eleven, 5, eleven.indexOf("a[(") + 1);
        Bench.builds(HEAD + "if 1 { while 1 { x = " + "(".repeat(27) + "1" + ")".repeat(27) + "; } } }");
        String within = HEAD + "if 1 { while 1 { x = " + "(".repeat(28) + "1" + ")".repeat(28) + "; } } }";
        Bench.fault(within, 5, within.indexOf("((((") + 27);
        Bench.about("Term 1: an if of an else counts one up to the end of that whole statement");
        fits("if 1 {}" + " else if 1 {}".repeat(28));
        fits("if 1 {}" + " else if 1 {}".repeat(28) + " else {}");
        Bench.fault(HEAD + "if 1 {}" + " else if 1 {}".repeat(29) + " }", 5, HEAD.length() + 7 + 28 * 13 + 11);
        Bench.fault(HEAD + "if 1 {}" + " else if 1 {}".repeat(30) + " }", 5, HEAD.length() + 7 + 28 * 13 + 11);
        String ifs = HEAD + "if 1 {}" + " else if 1 {}".repeat(10);
        Bench.builds(ifs + " else { x = " + "(".repeat(18) + "1" + ")".repeat(18) + "; } }");
        Bench.fault(ifs + " else { x = " + "(".repeat(19) + "1" + ")".repeat(19) + "; } }", 5, ifs.length() + 12 + 18);
        Bench.builds(ifs + " else if " + "(".repeat(18) + "1" + ")".repeat(18) + " {} }");
        Bench.fault(ifs + " else if " + "(".repeat(19) + "1" + ")".repeat(19) + " {} }", 5, ifs.length() + 9 + 18);
        Bench.about("Term 1: an if of no else, a while and a - between two do not nest");
        fits("if " + "(".repeat(29) + "1" + ")".repeat(29) + " {}");
        fits("while " + "(".repeat(29) + "0" + ")".repeat(29) + " {}");
        fits("if 1 {} else { if " + "(".repeat(28) + "1" + ")".repeat(28) + " {} }");
        fits("x = " + "(".repeat(29) + "1 - 1 - 1" + ")".repeat(29) + ";");
        fits("x = " + "1 - (".repeat(29) + "1" + ")".repeat(29) + ";");
    }

    private static void nestingThatEnds() {
        Bench.about("Term 1: what nests counts up to where it is closed, or up to the end of what is behind it");
        for (String beside : new String[] {"holder 1", "first 1", "next 1", "random 1", "f(1)", "a[1]", "(1)", "-1", "f(a[-(1)])", "random random 1"}) {
            fits("x=" + (beside + "+").repeat(40) + "1;");
            fits("x=" + "(".repeat(25) + (beside + "+").repeat(40) + "1" + ")".repeat(25) + ";");
            fits(("if " + beside + "{} else if 1 {} ").repeat(40));
        }
        fits("x = " + "not 1 or not 1 and ".repeat(40) + "1;");
        fits("x = " + "not not not 1 == 1 or ".repeat(20) + "1;");
        fits("f(1);".repeat(40) + "a[1]=2;".repeat(40));
        fits("if 1 {} while 0 {} ".repeat(40));
        fits(("if 1 {}" + " else if 1 {}".repeat(28) + " ").repeat(3));
        fits("f(" + "f(".repeat(27) + "a[1]" + ")".repeat(27) + ");");
        Bench.builds(ROOM + "each {} ".repeat(20) + "on look {} ".repeat(40) + "def f() {} array b[1]; array c[1]; " + manyThings(40)
                + "on look { " + "if 1 {".repeat(29) + "}".repeat(30));
    }

    private static String manyThings(int count) {
        StringBuilder text = new StringBuilder();
        for (int i = 0; i < count; i++) {
            text.append("thing t").append(i).append(" \"T\" {} ");
        }
        return text.toString();
    }

    private static void differentNames() {
        Bench.about("Term 1: rooms, things, verbs, vars, arrays and defs have different NAMES; fault 4 at one that was told by an item before");
        String[] items = {"room q \"Q\" {} ", "thing q \"Q\" {} ", "verb q q alone; ", "var q = 1; ", "array q[1]; ", "def q() {} "};
        for (String first : items) {
            for (String second : items) {
                Bench.fault(ROOM + first + second, 4, ROOM.length() + first.length() + second.indexOf('q'));
                Bench.fault(ROOM + first + first.replace('q', 'p') + second, 4, ROOM.length() + 2 * first.length() + second.indexOf('q'));
            }
            for (String own : OWN_VERBS) {
                int place = ROOM.length() + first.indexOf('q');
                Bench.fault(ROOM + first.replace("q", own), own.equals("open") ? 2 : 4, place);
                Bench.fault(first.replace("q", own) + ROOM, own.equals("open") ? 2 : 4, first.indexOf('q'));
            }
        }
        Bench.builds(ROOM + "thing t \"T\" { word r, t, look, v, x; } verb v v, r, t alone; verb w v two t; var x = 1;");
        Bench.builds(ROOM + "def f(a) {} def g(a) {} each { let a = 1; } on look { let a = 1; }");
        Bench.about("Term 1: each def's own NAMES are different");
        Bench.fault(ROOM + "def f(a, a) {}", 4, 23);
        Bench.fault(ROOM + "def f(a, b, a) {}", 4, 26);
        Bench.fault(ROOM + "def f(a, b, c, d, e, a) {}", 4, 35);
        Bench.fault(ROOM + "def f(f) {}", 4, 20);
        Bench.fault(ROOM + "def f(r) {}", 4, 20);
        Bench.fault(ROOM + "def f(go) {}", 4, 20);
        Bench.fault(ROOM + "def f(q) {} var q = 1;", 4, 20);
    }

    private static void namesOfLetAndList() {
        Bench.about("Term 1: a let's NAME is seen from behind its ; to the end of its block");
        Bench.fault(ROOM + "each { let y = y; }", 3, 29);
        Bench.fault(ROOM + "each { let y = 1 + (y); }", 3, 34);
        Bench.fault(ROOM + "each { say y; let y = 1; }", 3, 25);
        Bench.fault(ROOM + "each { if 1 { let y = 1; } say y; }", 3, 45);
        Bench.fault(ROOM + "each { if 1 { let y = 1; } else { say y; } }", 3, 52);
        Bench.fault(ROOM + "each { while 0 { let y = 1; } y = 2; }", 3, 44);
        Bench.fault(ROOM + "each { let y = 1; } each { say y; }", 3, 45);
        Bench.builds(ROOM + "each { let y = 1; say y; if y { say y; while y { y = y - 1; } } y = 2; }");
        Bench.builds(ROOM + "each { if 1 { let y = 1; say y; } let y = 2; say y; }");
        Bench.builds(ROOM + "each { if 1 { let y = 1; say y; } else { let y = 2; say y; } while 0 { let y = 3; } let y = 4; }");
        Bench.about("Term 1: a NAME of a def's list is seen to the end of the def");
        Bench.builds(ROOM + "def f(a, b) { if a { say b; } return a + b; }");
        Bench.fault(ROOM + "def f(a) {} each { say a; }", 3, 37);
        Bench.fault(ROOM + "def f(a) {} def g(b) { say a; }", 3, 41);
        Bench.fault(ROOM + "each { say a; } def f(a) {}", 3, 25);
        Bench.about("Term 1: a let's NAME is another one than all items' and than those seen there");
        Bench.fault(ROOM + "each { let r = 1; }", 4, 25);
        Bench.fault(ROOM + "each { let take = 1; }", 4, 25);
        Bench.fault(ROOM + "each { let q = 1; } var q = 1;", 4, 25);
        Bench.fault(ROOM + "each { let q = 1; } def q() {}", 4, 25);
        Bench.fault(ROOM + "each { let q = 1; } room q \"Q\" {}", 4, 25);
        Bench.fault(ROOM + "each { let q = 1; let q = 2; }", 4, 36);
        Bench.fault(ROOM + "each { let q = 1; if 1 { let q = 2; } }", 4, 43);
        Bench.fault(ROOM + "each { let q = 1; if 1 { } let q = 2; }", 4, 45);
        Bench.fault(ROOM + "def f(a) { let a = 1; }", 4, 29);
        Bench.fault(ROOM + "def f(a) { if 1 { let a = 1; } }", 4, 36);
        Bench.fault(ROOM + "def f(a) { let f = 1; }", 4, 29);
        Bench.fault(ROOM + "each { let q = q; let q = 1; }", 4, 36);
    }

    private static void whatCountsOfParts() {
        Bench.about("Term 1: of parts that tell the same the last one counts (a text, in, an exit of one DIRECTION); words are all of them");
        Bench bench = Bench.playing("room r \"R\" { text \"one\"; exit up r; exit down s; dark; text \"two\"; exit up s; dark; text \"three\"; } room s \"S\" {} "
                + "thing t \"T\" { in s; word ta, tb; text \"old\"; in player; light; word tc; light; text \"new\"; }");
        Bench.same("a text", "It is not", bench.out().replace("R\nthree\n", "It is not"));
        Bench.same("in", 1, bench.house.holder(4));
        Bench.same("its text", "1 new\n", bench.play("x ta"));
        Bench.same("words of one part", "1 new\n", bench.play("x tb"));
        Bench.same("words of another part", "1 new\n", bench.play("x tc"));
        Bench.same("an exit of the same DIRECTION", "1 S\n", bench.play("up"));
        bench.house.undo();
        Bench.same("an exit of another one", "1 S\n", bench.play("down"));
        Bench.same("in nothing is told by no part", 0, Bench.playing(ROOM + "thing t \"T\" {}").house.holder(3));
    }

    private static void whatObjectsAre() {
        Bench.about("Term 1: player is 1 (it is called yourself), then rooms and things by their order in the SOURCE; 0 is none");
        Bench.same("numbers", "1 123456", Bench.worth("thing a \"A\" {} room b \"B\" {} thing c \"C\" {} room d \"D\" {}", "player, r, a, b, c, d"));
        Bench.same("called", "1 yourself R A", Bench.worth("thing a \"A\" {}", "name player, \" \", name r, \" \", name a"));
        Bench.same("the player alone is no source", -6, new Bench().build(""));
        Bench.about("Term 1: VERBS are look 1 .. go 11, then those told");
        Bench bench = new Bench();
        bench.build(ROOM + "verb a a alone; verb b b alone;");
        Bench.same("verbs", 13, bench.house.told(1));
        bench.build(ROOM);
        Bench.same("none told", 11, bench.house.told(1));
    }
}
