/** The document's terms, II: each sentence that names an edge of texts, laws, faults or playing has its own test. */
public final class EdgeTextTest {
    private static final String[] NAMES = {"hour", "phase", "size", "steps", "kind", "height", "at", "silver", "bed", "mood", "who"};

    private final Edge edge = new Edge();

    private EdgeTextTest() throws java.io.IOException {
    }

    public static void main(String[] args) throws Exception {
        EdgeTextTest test = new EdgeTextTest();
        test.tape();
        test.tokens();
        test.clauses();
        test.ones();
        test.names();
        test.reckoning();
        test.placesOfFaults();
        test.standing();
        test.numbers();
        test.open();
        test.twiceStrangeAndTooMany();
        test.laws();
        test.played();
        test.edge.end("EdgeTextTest");
    }

    /** A text with a fault at a place, or with none (0): told of a sentence. */
    private void fault(String sentence, String text, int fault, int place) {
        edge.of(sentence).text(text, fault == 0 ? 0 : -1).calls("fault(0)=" + fault + " fault(1)=" + (fault == 0 ? -1 : place));
    }

    private void fine(String sentence, String... texts) {
        for (String text : texts) {
            fault(sentence, text, 0, -1);
        }
    }

    /** What a sum comes to, 0 .. 99, told by pays. */
    private void sum(String sentence, String sum, int want) {
        edge.of(sentence).law("pays " + sum + ";").calls("is(6)=" + want);
    }

    private void tape() {
        String many = "TEXTS 0 .. 3: of up to 300 bytes.";
        edge.of(many).text("pays 1;", 0).text("pays 2;", 1).text("", 2).calls("by(3)=0").text("pays 4;", 3).calls("by(3)=1 is(6)=4")
                .calls("text()=-1 about(1)=4 by(4)=0 played(4)=-2");
        String longest = " ".repeat(293) + "pays 7;";
        edge.of(many).law(longest).calls("is(6)=7").tape(longest)
                .calls("about(8)=300 feed(0,0,0,0,0)=-1 end(301)=-1 about(8)=300 text()=1");
    }

    private void tokens() {
        String blanks = "TOKENS, blanks (32, 10) aside";
        fine(blanks, "", " ", "\n", " \n \n", "out ;", "\nout\n;\n", "pays\n1\n+\n1;", "lodge1;", "cell1kind2;");
        for (int sign : new int[] {0, 1, 9, 11, 12, 13, 31, 127, 128, 160, 255}) {
            fault(blanks, "out" + (char) sign + ";", 1, 3);
        }
        fault(blanks, "lodge 1 2;", 1, 8);
        fault(blanks, "pa ys 1;", 1, 0);
        String letters = "letters a .. z, A .. Z one behind the other (one TOKEN)";
        for (String other : new String[] {"a", "z", "A", "Z", "outs"}) {
            fault(letters, " out" + other + ";", 1, 1);
            fault(letters, "pays 1+" + other + "silver;", 1, 7);
        }
        for (String other : new String[] {"@", "[", "`", "{", "_", "$", "!", "\"", "%", "&", "'", ",", ".", ":", "?", "^", "~"}) {
            fault(letters, " out" + other + ";", 1, 4);
        }
        fault(letters, "OUT;", 1, 0);
        fault(letters, "pays Silver;", 1, 5);
        String digits = "digits likewise (NUMBERS, 0 .. 9999)";
        fine(digits, "pays 0;", "pays 9999;", "pays 00009999;", "lodge 00000029;", "pays 0123;");
        fault(digits, "pays 10000;", 2, 5);
        fault(digits, "pays 100000000000000000000000000007;", 2, 5);
        fault(digits, "pays 4294967297;", 2, 5);
        fault(digits, "pays 1 0;", 1, 7);
        fault(digits, "pays 1:;", 1, 6);
        sum(digits, "1/1", 1);
        String signs = "<= >= < > = # + - * / ( ) ; (the longest)";
        sum(signs, "if 1<=1 then 2 else 3 end", 2);
        sum(signs, "if 1>=1 then 2 else 3 end", 2);
        sum(signs, "if 1<1 then 2 else 3 end", 3);
        fault(signs, "pays if 1< =1 then 2 else 3 end;", 1, 11);
        fault(signs, "pays if 1> =1 then 2 else 3 end;", 1, 11);
        fault(signs, "pays if 1=<1 then 2 else 3 end;", 1, 10);
        fault(signs, "pays if 1==1 then 2 else 3 end;", 1, 10);
        fault(signs, "pays if 1<>1 then 2 else 3 end;", 1, 10);
        fault(signs, "pays if 1<==1 then 2 else 3 end;", 1, 11);
        fault(signs, "pays if 1<", 1, 10);
        fault(signs, "pays if 1<=", 1, 11);
    }

    private void clauses() {
        String most = "{CLAUSE}, 24 at most";
        edge.of(most).text("lodge 1;out;".repeat(12), 0).calls("played(0)=-1 about(3)=24 is(3)=-1");
        fine(most, "", "out;".repeat(24), "hour 1;shines 1;pays 1;kicks 1;" + "out;".repeat(20));
        fault(most, "out;".repeat(25), 6, 96);
        fault(most, "shines 1;pays 1;kicks 1;" + "out;".repeat(22), 6, 24 + 84);
        String laws = "shines SUM ; or pays SUM ; or kicks SUM ; (each once)";
        fine(laws, "shines 1;", "pays 1;", "kicks 1;", "kicks 1;pays 2;shines 3;");
        fault(laws, "shines;", 1, 6);
        fault(laws, "pays ;", 1, 5);
        fault(laws, "kicks", 1, 5);
        fault(laws, "kicks 1", 1, 7);
        fault(laws, "kicks 1 pays 1;", 1, 8);
        fine("cell NUMBER kind NUMBER ;", "cell 0 kind 0;", "cell 29 kind 3;");
        fine("height NUMBER of NUMBER ; (HEIGHT, CELL)", "height 0 of 0;", "height 9 of 29;");
        edge.of("height NUMBER of NUMBER ; (HEIGHT, CELL)").text("height 2 of 7;", 0).calls("played(0)=-1 ofCell(7,1)=2 ofCell(2,1)=5");
        fine("beast NUMBER mood NUMBER ; (CELL)", "beast 0 mood 0;", "beast 29 mood 9;");
        edge.of("beast NUMBER mood NUMBER ; (CELL)").text("beast 2 mood 7;", 0).calls("played(0)=-1 of(0,0)=2 of(0,1)=7");
        fine("lodge NUMBER ;", "lodge 0;", "lodge 29;");
        fine("lead NUMBER to NUMBER ;", "lead 0 to 0;", "lead 4 to 29;");
        fine("hour NUMBER ;", "hour 1;", "hour 60;");
        String[] words = {"cell 1 kind 1;", "height 1 of 1;", "beast 1 mood 1;", "lodge 1;", "out;", "lead 1 to 1;", "hour 1;"};
        for (String clause : words) {
            for (int cut = 1; cut < clause.length(); cut++) {
                boolean inWord = Character.isLetter(clause.charAt(cut)) && Character.isLetter(clause.charAt(cut - 1));
                if (!inWord) {
                    fault("of the end at the length", clause.substring(0, cut), 1, cut);
                    fault("it can't stand there, or is none.", clause.substring(0, cut) + "? " + clause.substring(cut), 1, cut);
                }
            }
        }
    }

    private void ones() {
        String sum = "SUM: PRODUCT {+ or - PRODUCT}. PRODUCT: ONE {* or / ONE}.";
        sum(sum, "7", 7);
        sum(sum, "1+2*3-8/4", 5);
        sum(sum, "2*3+4*5", 26);
        sum(sum, "20-2*3", 14);
        fault(sum, "pays 1+;", 1, 7);
        fault(sum, "pays 1*;", 1, 7);
        fault(sum, "pays *1;", 1, 5);
        fault(sum, "pays +1;", 1, 5);
        fault(sum, "pays 1++1;", 1, 7);
        fault(sum, "pays 1**1;", 1, 7);
        fault(sum, "pays 1-/1;", 1, 7);
        String one = "ONE: NUMBER, NAME, ( SUM ), - ONE,";
        sum(one, "(7)", 7);
        sum(one, "2*(3+4)", 14);
        sum(one, "--7", 7);
        sum(one, "9+-2*3", 3);
        sum(one, "9--2", 11);
        sum(one, "9*--2", 18);
        sum(one, "-(2-9)", 7);
        sum(one, "-2+9", 7);
        fault(one, "pays ();", 1, 6);
        fault(one, "pays (1;", 1, 7);
        fault(one, "pays 1);", 1, 6);
        fault(one, "pays -;", 1, 6);
        fault(one, "pays (1=1);", 1, 7);
        String mean = "mean ONE with ONE (both together, as much as that is, by 2, cut towards 0)";
        sum(mean, "mean 0 with 1", 0);
        sum(mean, "mean 3 with 4", 3);
        sum(mean, "mean 4 with 4", 4);
        sum(mean, "9+mean -3 with 0", 8);
        sum(mean, "9+mean -1 with 0", 9);
        sum(mean, "9+mean 1 with -4", 8);
        sum(mean, "mean (1000*1000) with (1000*1000)-(1000*1000-7)", 7);
        sum(mean, "mean (1000*1000) with (999*1001)-(1000*1000-8)", 7);
        sum(mean, "mean (-1000*1000) with (-1000*1000)+1000*1000+7", 7);
        sum(mean, "mean (-1000*1000) with (-999*1001)+1000*1000+7", 8);
        sum(mean, "mean 2 with 4*5", 15);
        sum(mean, "mean 2 with 4+5", 8);
        fault(mean, "pays mean 1+1 with 2;", 1, 11);
        fault(mean, "pays mean 1;", 1, 11);
        fault(mean, "pays mean 1 with;", 1, 16);
        String light = "light ONE (LIGHT of the CELL of that number; 0 for others; not in shines)";
        String[][] cells = {{"0", "1"}, {"29", "15"}, {"30", "0"}, {"(0-1)", "0"}, {"-1", "0"}, {"-30", "0"}, {"9999", "0"}, {"7", "8"},
            {"(1000*1000)", "0"}, {"(-1000*1000)", "0"}, {"(64+7)", "0"}, {"(32+7)", "0"}, {"(256+7)", "0"}, {"5+1", "7"}, {"6*2", "14"}};
        for (String[] c : cells) {
            edge.of(light).law("shines at+1;pays light " + c[0] + ";kicks light " + c[0] + ";")
                    .calls("beast(3,0)=0 is(6)=" + ("5+1".equals(c[0]) ? 1 : 0))
                    .calls("lodge(3)=1 is(6)=" + c[1] + " of(0,2)=" + Math.min(10, Integer.parseInt(c[1])));
        }
        edge.of(light).law("shines 9;pays light 8;")
                .calls("lodge(3)=1 is(6)=9 cell(8,1)=1 is(6)=0 cell(8,0)=1 cell(2,1)=1 cell(9,1)=1 cell(4,1)=1 is(6)=0");
        fault(light, "shines light 1;", 5, 7);
        String choice = "if EITHER then SUM else SUM end.";
        sum(choice, "if 1=1 then 3+4 else 5 end*2", 14);
        sum(choice, "if 1=2 then 3 else 4+5 end*2", 18);
        sum(choice, "50+if 1=1 then 3 else 4 end", 53);
        sum(choice, "50-if 1=2 then 3 else 4 end*2", 42);
        sum(choice, "50-2*if 3+1=if 1=2 then 3 else 2*2 end then if 7=8 then 9 else 20-6*2 end else 4 end-1", 33);
        sum(choice, "mean 50 with if 1=1 then 30 else 4 end", 40);
        fault(choice, "pays if 1=1 then 2 end;", 1, 19);
        fault(choice, "pays if 1=1 else 2 end;", 1, 12);
        fault(choice, "pays if 1=1 then else 2 end;", 1, 17);
        fault(choice, "pays if 1=1 then 2 else end;", 1, 24);
        fault(choice, "pays if 1=1 then 2 else 3;", 1, 25);
        fault(choice, "pays if then 2 else 3 end;", 1, 8);
        String ask = "ASK: not ASK, or SUM one of < <= > >= = # (unlike) SUM.";
        String[] signs = {"<", "<=", ">", ">=", "=", "#"};
        String[] holds = {"100", "110", "001", "011", "010", "101"};
        for (int i = 0; i < 6; i++) {
            for (int left = 1; left <= 3; left++) {
                boolean so = holds[i].charAt(left - 1) == '1';
                sum(ask, "if " + left + signs[i] + "2 then 7 else 8 end", so ? 7 : 8);
                sum(ask, "if not " + left + signs[i] + "2 then 7 else 8 end", so ? 8 : 7);
                sum(ask, "if 0-" + left + signs[i] + "-2 then 7 else 8 end", holds[i].charAt(3 - left) == '1' ? 7 : 8);
            }
        }
        sum(ask, "if not not 1=1 then 7 else 8 end", 7);
        fault(ask, "pays if not (1=1) then 7 else 8 end;", 1, 14);
        fault(ask, "pays if 1 then 7 else 8 end;", 1, 10);
        sum("BOTH: ASK {and ASK}.", "if not 1=2 and 1=2 then 7 else 8 end", 8);
        sum("BOTH: ASK {and ASK}.", "if 1=1 and 2=2 and 3=4 then 7 else 8 end", 8);
        sum("EITHER: BOTH {or BOTH}.", "if 1=2 or 1=3 or 1=1 then 7 else 8 end", 7);
        sum("EITHER: BOTH {or BOTH}.", "if 1=1 or 1=1 and 1=2 then 7 else 8 end", 7);
        sum("EITHER: BOTH {or BOTH}.", "if 1=2 and 1=1 or 1=1 then 7 else 8 end", 7);
    }

    private void names() {
        edge.of("bed (1, if MOON lies in a bed, else 0)").law("pays bed+7;")
                .calls("cell(1,3)=1 is(6)=7 lodge(0)=1 is(6)=7 lodge(1)=1 is(6)=8")
                .calls("cell(1,2)=1 is(6)=7 cell(1,0)=1 is(6)=7 cell(1,3)=1 is(6)=8 out()=1 is(6)=7 undo()=2 is(6)=8");
        edge.of("steps, kind, height, at (its number) of the CELL in shines").law("shines at;")
                .calls("lodge(29)=1 ofCell(0,2)=0 ofCell(9,2)=9")
                .law("shines height;").calls("height(4,0)=1 height(3,9)=1 ofCell(4,2)=0 ofCell(3,2)=9 ofCell(2,2)=5")
                .law("shines kind;").calls("cell(4,2)=1 cell(3,3)=1 ofCell(4,2)=2 ofCell(3,2)=3 ofCell(2,2)=0")
                .law("shines steps;").calls("ofCell(29,2)=0 ofCell(28,2)=1 ofCell(0,2)=9");
        edge.of("mood, who (its number), at (its CELL) in kicks").law("kicks mood;").calls("beast(9,0)=0 beast(8,9)=1 of(0,2)=0 of(1,2)=9")
                .law("kicks who;").calls("of(0,2)=0 of(1,2)=1").law("kicks at;").calls("of(0,2)=9 of(1,2)=8 lead(0,3)=1 of(0,2)=3");
        edge.of("silver, bed").law("pays silver*2+1;").calls("lodge(0)=1 is(6)=1 hour(1)=0 is(4)=1 is(6)=3 hour(1)=0 is(4)=4 is(6)=9");
        edge.of("hour, phase, size in all").law("shines hour/24-phase+size;pays hour/24+phase+size;kicks hour/24-phase+size;")
                .calls("beast(0,0)=0 lodge(0)=1").pass(24 * 16).calls("is(6)=46 ofCell(7,2)=14 of(0,2)=10").pass(24 * 11)
                .calls("is(6)=57 ofCell(7,2)=3 of(0,2)=3").pass(24 * 4).calls("is(6)=33 ofCell(7,2)=15 of(0,2)=10");
        edge.of("hour, phase, size in all").law("kicks hour-phase-size;").calls("beast(0,9)=0 of(0,2)=0 hour(4)=1 of(0,2)=4")
                .law("pays hour-phase-size;").calls("is(6)=4 hour(1)=0 is(6)=5")
                .law("kicks phase;").pass(43).calls("of(0,2)=2").law("kicks size;").pass(336).calls("is(1)=16 of(0,2)=10")
                .pass(312).calls("is(1)=29 of(0,2)=1");
    }

    private void reckoning() {
        String left = "From the left";
        sum(left, "20-5-4", 11);
        sum(left, "20-5+4", 19);
        sum(left, "90/7/2", 6);
        sum(left, "7/4*2", 2);
        sum(left, "7*2/4", 3);
        sum(left, "2+3*4-5", 9);
        String cuts = "/ cuts towards 0, by 0 it is 0";
        sum(cuts, "7/2", 3);
        sum(cuts, "9+-7/2", 6);
        sum(cuts, "9+7/-2", 6);
        sum(cuts, "-7/-2", 3);
        sum(cuts, "9+(0-1)/2", 9);
        sum(cuts, "1/2", 0);
        sum(cuts, "9+5/0", 9);
        sum(cuts, "9+-5/0", 9);
        sum(cuts, "9+0/0", 9);
        sum(cuts, "9+5/(3-3)*7", 9);
        sum(cuts, "9+5/0/0", 9);
        String above = "what is above 1000000 (below the same less) is that, at each step.";
        sum(above, "1000*1000-999*1001", 1);
        sum(above, "1000*1000+1-999*1001", 1);
        sum(above, "1001*1000-999*1001", 1);
        sum(above, "9999*9999-999*1001", 1);
        sum(above, "9999*9999*9999*9999-999*1001", 1);
        sum(above, "-1000*1000+999*1001+9", 8);
        sum(above, "-1000*1000-1+999*1001+9", 8);
        sum(above, "-1001*1000+999*1001+9", 8);
        sum(above, "0-9999*9999-9999*9999+999*1001+9", 8);
        sum(above, "9999*9999/9999-50", 50);
        sum(above, "9999*-9999/9999+150", 50);
        sum(above, "1000*1000-(0-1000*1000)-999*1001", 1);
        sum(above, "-(9999*9999)+999*1001+9", 8);
        String sides = "or and and look at both sides always, of if just the SUM that is chosen is asked.";
        sum(sides, "if 1=1 or 1/0=1 then 7 else 8 end", 7);
        sum(sides, "if 1=2 and 1/0=0 then 7 else 8 end", 8);
        sum(sides, "if 1=1 then 7 else 1/0 end", 7);
    }

    private void placesOfFaults() {
        String first = "FAULTS, the first as TOKENS are come to";
        fault(first, "lodge 30;out!", 2, 6);
        fault(first, "out!;lodge 30;", 1, 3);
        fault(first, "pays mood+10000;", 5, 5);
        fault(first, "pays 10000+mood;", 2, 5);
        fault(first, "pays 1;pays 10000;", 4, 7);
        fault(first, "!", 1, 0);
        String byteOf = "at the TOKEN's first byte (of the end at the length)";
        fault(byteOf, "   lodge   12345;", 2, 11);
        fault(byteOf, "  nothing;", 1, 2);
        fault(byteOf, "pays 1<=2;", 1, 6);
        fault(byteOf, "pays 1", 1, 6);
        fault(byteOf, "pays 1   ", 1, 9);
        fault(byteOf, "pays 1\n", 1, 7);
        fault(byteOf, "pays", 1, 4);
        fault(byteOf, "pays 1" + " ".repeat(294), 1, 300);
        fault(byteOf, " ".repeat(299) + "x", 1, 299);
        String least = "of one the least";
        fault(least, "pays 1 10000;", 1, 7);
        fault(least, "lodge 1 99999", 1, 8);
        fault(least, "pays 1 mood;", 1, 7);
        fault(least, "shines 1 light;", 1, 9);
        fault(least, "pays (((((((1 (2)))))))));", 1, 14);
        fault(least, "pays ((((((((1 (", 1, 15);
        fault(least, "out;".repeat(24) + ";", 1, 96);
        fault(least, "out;".repeat(24) + "10000", 1, 96);
        fault(least, "pays 1;" + "out;".repeat(23) + "pays", 4, 99);
        fault(least, "pays 1 pays 1;", 1, 7);
        fault(least, "pays if 1=1 then 1 else 1 end if 1=1 then 1 else 1 end;", 1, 30);
    }

    private void standing() {
        String stand = "1 it can't stand there, or is none.";
        String[] starts = {";", "1", "(", "kind 1;", "mood 1;", "of", "to", "with", "mean", "light 1;", "if", "then", "else", "end", "or", "and", "not",
            "at", "silver", "bed", "who", "phase", "size", "steps", "+", "-", "*", "/", "=", "#", "<", ">", "<=", ">=", ")", "?", "farm"};
        for (String start : starts) {
            fault(stand, start, 1, 0);
            fault(stand, "out;" + start, 1, 4);
        }
        String[] noOne = {";", ")", "+", "*", "/", "=", "#", "<", ">", "<=", ">=", "of", "to", "with", "then", "else", "end", "or", "and", "not",
            "shines", "pays", "kicks", "cell", "beast", "lodge", "out", "lead", "?", "farm"};
        for (String token : noOne) {
            fault(stand, "pays " + token + " 1;", 1, 5);
            fault(stand, "kicks 1+" + token + " 1;", 1, 8);
            fault(stand, "shines (" + token + " 1);", 1, 8);
        }
        String[] notBehind = {"1", "(", ")", "=", "#", "<", ">", "<=", ">=", "of", "to", "with", "then", "else", "end", "or", "and", "not", "mean",
            "light", "if", "hour", "at", "mood", "shines", "?", "farm"};
        for (String token : notBehind) {
            fault(stand, "kicks 1 " + token + ";", 1, 8);
            fault(stand, "kicks who " + token + ";", 1, 10);
        }
    }

    private void numbers() {
        String told = "2 a NUMBER that isn't one of those told (above 9999; CELLS 0 .. 29, kinds 0 .. 3, HEIGHT, MOOD 0 .. 9, BEASTS 0 .. 4, HOURS 1 .. 60).";
        fine(told, "cell 29 kind 3;height 9 of 29;beast 29 mood 9;lodge 29;lead 4 to 29;hour 60;hour 1;pays 9999;");
        fault(told, "pays 10000;", 2, 5);
        fault(told, "cell 30 kind 3;", 2, 5);
        fault(told, "cell 29 kind 4;", 2, 13);
        fault(told, "height 10 of 29;", 2, 7);
        fault(told, "height 9 of 30;", 2, 12);
        fault(told, "beast 30 mood 9;", 2, 6);
        fault(told, "beast 29 mood 10;", 2, 14);
        fault(told, "lodge 30;", 2, 6);
        fault(told, "lead 5 to 29;", 2, 5);
        fault(told, "lead 4 to 30;", 2, 10);
        fault(told, "hour 61;", 2, 5);
        fault(told, "hour 0;", 2, 5);
        fault(told, "hour 00;", 2, 5);
        fault(told, "hour 10001;", 2, 5);
        fault(told, "lodge 65536;", 2, 6);
        fault(told, "lodge 16384;", 2, 6);
        fault(told, "lodge 4294967296", 2, 6);
        fault(told, "shines mean 1 with 10000;", 2, 19);
        fault(told, "kicks if 1=10000 then", 2, 11);
    }

    private void open() {
        String ninth = "3 the 9th of ( not mean light if and - (of one ONE) that are open around one another (at it; mean till its second is whole).";
        String[] openers = {"(", "-", "mean 1 with ", "mean ", "light ", "if ", "if 1=", "if 1=1 then ", "if 1=1 then 1 else "};
        for (String opener : openers) {
            fault(ninth, "pays " + "(".repeat(8) + opener + "1", 3, 13);
            fault(ninth, "kicks " + "-".repeat(8) + opener + "1", 3, 14);
            fault(ninth, "pays " + opener + "(".repeat(8) + "1", 3, 5 + opener.length() + 7);
            fault(ninth, "pays " + opener + "(".repeat(7) + "1", 1, 5 + opener.length() + 8);
        }
        fault(ninth, "pays if " + "not ".repeat(8), 3, 8 + 28);
        fault(ninth, "pays if " + "not ".repeat(7), 1, 8 + 28);
        fault(ninth, "pays if not " + "(".repeat(7), 3, 12 + 6);
        fault(ninth, "pays if not " + "(".repeat(6), 1, 12 + 6);
        fault(ninth, "pays if not 1=1 and " + "(".repeat(7), 1, 20 + 7);
        fault(ninth, "pays if not 1=1 and " + "(".repeat(8), 3, 20 + 7);
        fault(ninth, "pays if not 1=" + "(".repeat(7), 3, 14 + 6);
        fault(ninth, "pays mean (1) with " + "(".repeat(8), 3, 19 + 7);
        fault(ninth, "pays mean (1) with " + "(".repeat(7), 1, 19 + 7);
        fine(ninth, "pays mean 1 with 1+" + "(".repeat(8) + "1" + ")".repeat(8) + ";", "pays light 1+" + "(".repeat(8) + "1" + ")".repeat(8) + ";");
        fine(ninth, "pays -1+" + "(".repeat(8) + "1" + ")".repeat(8) + ";", "pays if 1=1 then 1 else 1 end+" + "(".repeat(8) + "1" + ")".repeat(8) + ";");
        fine(ninth, "pays 1-" + "(".repeat(8) + "1" + ")".repeat(8) + ";", "pays 1-1-1-1-1-1-1-1-1-1-1-1;", "pays (1)+(1)+(1)+(1)+(1)+(1)+(1)+(1)+(1);");
        fault(ninth, "pays -1*" + "(".repeat(9), 3, 16);
        fault(ninth, "pays 1-" + "-".repeat(9) + "1", 3, 15);
    }

    private void twiceStrangeAndTooMany() {
        String twice = "4 shines, pays, kicks for the second time (at it).";
        fault(twice, "shines 1;shines 1;", 4, 9);
        fault(twice, "pays 1; pays 1;", 4, 8);
        fault(twice, "kicks 1;out;kicks", 4, 12);
        fine(twice, "lodge 1;lodge 1;out;out;hour 1;hour 1;");
        String strange = "5 a NAME that isn't of that CLAUSE, or light in shines (at it; ahead of 3).";
        String[] laws = {"shines", "pays", "kicks"};
        String[] has = {"11111110000", "11100001100", "11100010011"};
        for (int law = 0; law < 3; law++) {
            for (int name = 0; name < NAMES.length; name++) {
                boolean fine = has[law].charAt(name) == '1';
                fault(strange, laws[law] + " " + NAMES[name] + ";", fine ? 0 : 5, laws[law].length() + 1);
                fault(strange, laws[law] + " 1-(2*" + NAMES[name] + ");", fine ? 0 : 5, laws[law].length() + 6);
                fault(strange, laws[law] + " ((((((((" + NAMES[name] + "))))))));", fine ? 0 : 5, laws[law].length() + 9);
            }
        }
        fault(strange, "shines light 1;", 5, 7);
        fault(strange, "shines ((((((((light 1", 5, 15);
        fault(strange, "pays 1;shines 1+light", 5, 16);
        fine(strange, "pays light 1;kicks light 1;");
        String more = "6 the 25th CLAUSE (at its first TOKEN).";
        fault(more, "out;".repeat(24) + "out;", 6, 96);
        fault(more, "out;".repeat(24) + "  lodge 99;", 6, 98);
        fault(more, "out;".repeat(24) + "shines", 6, 96);
        fine(more, "out;".repeat(24) + "\n  ");
    }

    private void laws() {
        edge.of("THE TEXT (told; at first none) rules.").calls("about(2)=-1").text("pays 7;", 0)
                .calls("about(2)=-1 is(6)=1 by(0)=1 is(6)=7 by(-1)=1 is(6)=1");
        String shines = "shines: 0 at least, 15 at most; without: SIZE, less 2 for each of STEPS.";
        for (int v = -1; v <= 17; v++) {
            edge.of(shines).law("shines 20-(20-" + (v < 0 ? "-1" : v) + ");")
                    .calls("lodge(0)=1 ofCell(7,2)=" + Math.max(0, Math.min(15, v)));
        }
        edge.of(shines).law("shines -1000*1000;").calls("lodge(0)=1 ofCell(0,2)=0 brightest()=-1").law("shines 1000*1000;")
                .calls("ofCell(0,2)=15 ofCell(29,2)=15");
        edge.of(shines).calls("lodge(0)=1 ofCell(0,2)=0").pass(24).calls("ofCell(0,2)=1 ofCell(1,2)=0").pass(24)
                .calls("ofCell(0,2)=2 ofCell(1,2)=0").pass(24)
                .calls("ofCell(0,2)=3 ofCell(1,2)=1 ofCell(2,2)=0").law("pays 1;").calls("ofCell(0,2)=3 ofCell(1,2)=1").pass(24 * 12)
                .calls("ofCell(0,2)=15 ofCell(29,2)=0 ofCell(22,2)=1 ofCell(23,2)=0 ofCell(27,2)=1").pass(24).calls("ofCell(0,2)=14");
        String pays = "pays: 0 at least, 99 at most; without: 1.";
        edge.of(pays).calls("is(6)=1").law("shines 3;").calls("is(6)=1").law("pays -1;").calls("is(6)=0 lodge(0)=1 hour(1)=0 is(4)=0")
                .law("pays 100;").calls("is(6)=99 hour(1)=0 is(4)=99");
        edge.of(pays).law("pays 0;").calls("is(6)=0").law("pays 99;").calls("is(6)=99").law("pays 98;").calls("is(6)=98")
                .law("pays -1000*1000;").calls("is(6)=0");
        edge.of(pays).law("pays 1000*1000;").calls("is(6)=99 by(-1)=1 is(6)=1");
        String kicks = "kicks (the odds of 10): 0 at least, 10 at most; without: LIGHT of its CELL by 3, cut.";
        edge.of(kicks).law("kicks -1;").calls("beast(0,0)=0 of(0,2)=0").law("kicks 11;").calls("of(0,2)=10").law("kicks 10;")
                .calls("of(0,2)=10").law("kicks 9;")
                .calls("of(0,2)=9");
        edge.of(kicks).law("kicks 1000*1000;").calls("beast(0,0)=0 of(0,2)=10").law("kicks -1000*1000;").calls("of(0,2)=0")
                .law("kicks 0;").calls("of(0,2)=0");
        for (int light = 0; light <= 15; light++) {
            edge.of(kicks).law("shines " + light + ";")
                    .calls("beast(0,0)=0 of(0,2)=0 lodge(3)=1 of(0,2)=" + light / 3 + " cell(1,1)=1 cell(6,1)=1 of(0,2)=0");
        }
    }

    private void played() {
        String all = "its CLAUSES but laws, in their order, as by hand";
        edge.of(all)
                .text("pays 9;cell 1 kind 3;lodge 1;shines 5;hour 2;beast 1 mood 3;lead 0 to 2;height 1 of 3;out;kicks 10;", 0)
                .calls("played(0)=-1")
                .calls("is(4)=2 is(6)=1 about(2)=-1 ofCell(1,0)=3 is(0)=2 of(0,0)=2 of(0,1)=3 ofCell(3,1)=1 is(3)=-1")
                .calls("about(3)=5 book(-1,0)=0");
        edge.of(all).text("pays 9;", 0).text("lodge 0;hour 3;pays 50;", 1).calls("by(0)=1 played(1)=-1 is(4)=27 about(2)=0");
        edge.of(all).text("", 0).text("shines 1;pays 1;kicks 1;", 1).calls("played(0)=-1 played(1)=-1 about(3)=0");
        String ends = "one that can't be ends it (of so many HOURS those that can pass do): its number among all CLAUSES (from 0); what was done stays.";
        edge.of(ends).text("out;lodge 1;", 0).calls("played(0)=0 is(3)=-1").text("lodge 1;shines 1;lodge 1;lodge 2;", 1)
                .calls("played(1)=2 is(3)=1 played(1)=0 is(3)=1")
                .text("cell 3 kind 3;cell 1 kind 1;cell 4 kind 1;", 2).calls("played(2)=1 ofCell(3,0)=3 ofCell(1,0)=0 ofCell(4,0)=0");
        edge.of(ends).text("out;".repeat(23) + "lodge 1;", 0)
                .text("lodge 1;" + "pays 1;" + "lodge 2;lodge 1;".repeat(10) + "kicks 1;lodge 1;", 1)
                .calls("played(0)=0 played(1)=23 is(3)=1 about(3)=21");
        edge.of(ends).text("cell 5 kind 1;beast 5 mood 1;", 0).text("beast 0 mood 1;beast 0 mood 1;beast 0 mood 1;", 1)
                .text("lead 4 to 3;lead 4 to 3;", 2)
                .text("lead 3 to 5;", 3)
                .calls("played(0)=1 about(0)=0 played(1)=-1 played(2)=0 played(1)=2 about(0)=5 played(2)=1 of(4,0)=3")
                .calls("played(3)=0");
        edge.of(ends).pass(9996).text("out;pays 1;hour 4;lodge 3;", 0).text("hour 1;", 1).text("hour 2;lodge 4;hour 1;lodge 5;hour 1;", 2)
                .calls("image()=9996 lodge(0)=1 played(0)=2 is(0)=9999 is(3)=-1 about(3)=30 played(1)=0 is(0)=9999 back()=9996")
                .calls("played(2)=4 is(3)=5 is(0)=9999");
        edge.of(ends).pass(9939).text("hour 60;lodge 3;", 0)
                .calls("played(0)=-1 is(0)=9999 is(3)=3 undo()=29 is(3)=-1 is(0)=9999 played(0)=0 is(3)=-1");
    }
}
