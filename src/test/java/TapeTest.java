/** Promises 5 to 8: the tape, and texts with their faults. */
public final class TapeTest {
    public static void main(String[] args) {
        Check check = new Check();
        tape(check);
        texts(check);
        placesOfFaults(check);
        numbers(check);
        depth(check);
        names(check);
        twiceAndTooMany(check);
        check.end("TapeTest");
    }

    private static void tape(Check check) {
        Run run = new Run(check, "P5 feed");
        for (int bytes = 20; bytes <= 300; bytes += 20) {
            run.calls("feed(0,0,0,0,0)=" + bytes + " about(8)=" + bytes);
        }
        run.calls("feed(0,0,0,0,0)=-1 about(8)=300 end(281)=281 feed(0,0,0,0,0)=-1 about(8)=281 end(280)=280");
        run.calls("feed(0,0,0,0,0)=300 end(301)=-1 end(-1)=-1 about(8)=300 end(300)=300 end(7)=7 end(8)=-1 about(8)=7");
        run.calls("end(" + Integer.MIN_VALUE + ")=-1 end(" + Integer.MAX_VALUE + ")=-1 end(0)=0 end(1)=-1 about(8)=0");
        // out; and bytes above 127, the highest of each int first
        new Run(check, "P5 order").calls("feed(1869968443,0,0,0,0)=20 end(4)=4 text()=0 fault(0)=0 fault(1)=-1")
                .calls("feed(1869968443,-1,0,0,0)=20 end(5)=5 text()=-1 fault(0)=1 fault(1)=4")
                .calls("feed(540029556,992962930,0,0,0)=20 end(8)=8 text()=-1 fault(0)=1 fault(1)=1");
        new Run(check, "P6 end keeps the first").calls("feed(1869968443,1869968443,1869968443,0,0)=20 end(8)=8 end(4)=4")
                .calls("feed(1869968443,0,0,0,0)=24 end(8)=8 text()=0 lodge(1)=1 played(0)=1");
    }

    private static void texts(Check check) {
        check.fault("", 0, -1);
        check.fault(" \n ", 0, -1);
        check.fault("out;", 0, -1);
        check.fault("\nout\n;\n", 0, -1);
        Run run = new Run(check, "P7 text");
        run.text("pays 1;", 0).calls("about(8)=0 about(1)=1 fault(0)=0").text("pays", -1).calls("about(8)=0 about(1)=1");
        run.calls("fault(0)=1 fault(1)=4").text("", 1).calls("fault(0)=0 fault(1)=-1").text("out;", 2).text("x", -1);
        run.calls("fault(0)=1 fault(1)=0").text("hour 3;", 3);
        Check.write(run.farm, "wrong");
        run.calls("text()=-1 about(8)=5 fault(0)=0 fault(1)=-1 about(1)=4 text()=-1 about(8)=5");
        run.calls("fault(2)=-1 fault(-1)=-1 fault(" + Integer.MIN_VALUE + ")=-1 fault(" + Integer.MAX_VALUE + ")=-1");
        run.calls("back()=0 about(1)=0 about(8)=5 fault(0)=0 text()=-1 fault(0)=1 fault(1)=0 about(8)=0 back()=0 fault(0)=1");
        Run worn = new Run(check, "P7 behind many faults");
        for (int i = 0; i < 20; i++) {
            worn.text("out;out;out;pays 1+1+1+1+1+1+1+1+1+1+1+1+1+1+1+1+1+1+1+1;pays", -1).calls("fault(0)=4");
        }
        worn.law("out;".repeat(22) + "pays 7+1+1;hour 1;").calls("is(6)=9 lodge(3)=1 played(0)=1");
        StringBuilder ones = new StringBuilder("pays 1");
        while (ones.length() < 298) {
            ones.append("+1");
        }
        new Run(check, "P7 the longest").law(ones.append(" ;").toString()).calls("is(6)=99").text(ones.toString(), 1);
        new Run(check, "P8 ahead of any").calls("fault(0)=-1 fault(1)=-1 fault(2)=-1");
    }

    private static void placesOfFaults(Check check) {
        check.fault("out", 1, 3);
        check.fault("out  \n", 1, 6);
        check.fault("  out out;", 1, 6);
        check.fault("pays;", 1, 4);
        check.fault("pays 1 2;", 1, 7);
        check.fault("pays 1 12345;", 1, 7);
        check.fault("pays 1+;", 1, 7);
        check.fault("pays 1 silver;", 1, 7);
        check.fault("kicks 1 silver;", 1, 8);
        check.fault("Pays 1;", 1, 0);
        check.fault("paysx 1;", 1, 0);
        check.fault("paysA 1;", 1, 0);
        check.fault("paysZ 1;", 1, 0);
        check.fault("pays_ 1;", 1, 4);
        check.fault("pays[ 1;", 1, 4);
        check.fault("pays@ 1;", 1, 4);
        check.fault("pays{ 1;", 1, 4);
        check.fault("pays` 1;", 1, 4);
        check.fault("pays 1:;", 1, 6);
        check.fault("pays\t1;", 1, 4);
        check.fault("pays 1\r;", 1, 6);
        check.fault("pays 1!;", 1, 6);
        check.fault("pays (1;", 1, 7);
        check.fault("pays 1);", 1, 6);
        check.fault("pays (1<2);", 1, 7);
        check.fault("pays if (1<2) then 1 else 2 end;", 1, 10);
        check.fault("pays if 1=<2 then 1 else 2 end;", 1, 10);
        check.fault("pays if 1< =2 then 1 else 2 end;", 1, 11);
        check.fault("pays if 1<=2 then 1 else 2 end;", 0, -1);
        check.fault("pays if 1>=2 then 1 else 2 end;", 0, -1);
        check.fault("pays if 1 then 2 else 3 end;", 1, 10);
        check.fault("pays if 1) then 2 else 3 end;", 1, 9);
        check.fault("pays if 1<2<3 then 1 else 2 end;", 1, 11);
        check.fault("pays if 1<2 then 1 end;", 1, 19);
        check.fault("pays if 1<2 then 1 else 2;", 1, 25);
        check.fault("pays if 1<2 or then 1 else 2 end;", 1, 15);
        check.fault("pays if not then 1 else 2 end;", 1, 12);
        check.fault("pays not 1;", 1, 5);
        check.fault("pays mean 1 2;", 1, 12);
        check.fault("pays to;", 1, 5);
        check.fault("cell 1 2;", 1, 7);
        check.fault("cell kind 2;", 1, 5);
        check.fault("cell 1 kind kind;", 1, 12);
        check.fault("height 1 kind 2;", 1, 9);
        check.fault("beast 1 to 2;", 1, 8);
        check.fault("lead 1 mood 2;", 1, 7);
        check.fault("lodge;", 1, 5);
        check.fault("lodge -1;", 1, 6);
        check.fault("hour;", 1, 4);
        check.fault("out 1;", 1, 4);
        check.fault("mood 1;", 1, 0);
        check.fault(";", 1, 0);
        check.fault("1;", 1, 0);
        check.fault("lodge 1a;", 1, 7);
    }

    private static void numbers(Check check) {
        check.fault("cell 29 kind 3;height 9 of 29;beast 29 mood 9;lodge 29;lead 4 to 29;hour 60;pays 9999;", 0, -1);
        check.fault("cell 0 kind 0;height 0 of 0;beast 0 mood 0;lodge 0;lead 0 to 0;hour 1;pays 0;", 0, -1);
        check.fault("pays 0000000000000000007;", 0, -1);
        check.fault("hour 0;", 2, 5);
        check.fault("hour 61;", 2, 5);
        check.fault("lodge 30;", 2, 6);
        check.fault("lodge 4294967296;", 2, 6);
        check.fault("pays 10000;", 2, 5);
        check.fault("pays 99999999999999999999999;", 2, 5);
        check.fault("kicks (1+10000;", 2, 9);
        check.fault("cell 30 kind 4;", 2, 5);
        check.fault("cell 3 kind 4;", 2, 12);
        check.fault("height 10 of 1;", 2, 7);
        check.fault("height 1 of 30;", 2, 12);
        check.fault("beast 30 mood 1;", 2, 6);
        check.fault("beast 1 mood 10;", 2, 13);
        check.fault("lead 5 to 1;", 2, 5);
        check.fault("lead 1 to 30;", 2, 10);
    }

    private static void depth(Check check) {
        check.fault("pays ((((((((1))))))));", 0, -1);
        check.fault("pays (((((((((1)))))))));", 3, 13);
        check.fault("pays --------1;", 0, -1);
        check.fault("pays ---------1;", 3, 13);
        check.fault("pays 1-1-1-1-1-1-1-1-1-1-1;", 0, -1);
        check.fault("pays " + "light ".repeat(8) + "1;", 0, -1);
        check.fault("pays " + "light ".repeat(9) + "1;", 3, 53);
        check.fault("pays " + "mean ".repeat(8) + "1" + " with 1".repeat(8) + ";", 0, -1);
        check.fault("pays " + "mean ".repeat(9) + "1" + " with 1".repeat(9) + ";", 3, 45);
        check.fault("pays " + "mean 1 with ".repeat(8) + "1;", 0, -1);
        check.fault("pays " + "mean 1 with ".repeat(9) + "1;", 3, 101);
        check.fault("pays " + "if ".repeat(8) + "1" + "<1 then 1 else 1 end".repeat(8) + ";", 0, -1);
        check.fault("pays " + "if ".repeat(9) + "1" + "<1 then 1 else 1 end".repeat(9) + ";", 3, 29);
        check.fault("pays 1--------1;", 0, -1);
        check.fault("pays ((((((((1))))))))+((((((((1))))))));", 0, -1);
        check.fault("pays (((((((mean 1 with 2)))))))+-1;", 0, -1);
        check.fault("pays (((((((mean 1 with (2))))))));", 3, 24);
        check.fault("pays (((((((mean (1) with 2)))))));", 3, 17);
        check.fault("pays (((((((mean 1 with 2+(3))))))));", 0, -1);
        check.fault("pays ((((((((mean 1 with 2))))))));", 3, 13);
        check.fault("pays ((((((((light 1))))))));", 3, 13);
        check.fault("pays (((((((light 1+(1))))))));", 0, -1);
        check.fault("pays ((((((((if 1<2 then 1 else 2 end))))))));", 3, 13);
        check.fault("pays (((((((if (1)<2 then 1 else 2 end)))))));", 3, 15);
        check.fault("pays (((((((if 1<2 then 1 else (2) end)))))));", 3, 31);
        check.fault("pays (((((((if not 1<2 then 1 else 2 end)))))));", 3, 15);
        check.fault("pays ((((((if not 1<2 and (1)<2 then 1 else 2 end))))));", 0, -1);
        check.fault("pays ((((((if not (1)<2 then 1 else 2 end))))));", 3, 18);
        check.fault("pays if not not not not not not not 1<2 then 1 else 2 end;", 0, -1);
        check.fault("pays if not not not not not not not not 1<2 then 1 else 2 end;", 3, 36);
        check.fault("shines ((((((((light 1))))))));", 5, 15);
        check.fault("shines ((((((((mood))))))));", 5, 15);
    }

    private static void names(Check check) {
        String[] names = {"hour", "phase", "size", "steps", "kind", "height", "at", "silver", "bed", "mood", "who"};
        String[] laws = {"shines", "pays", "kicks"};
        String[] has = {"11111110000", "11100001100", "11100010011"};
        for (int law = 0; law < 3; law++) {
            for (int name = 0; name < names.length; name++) {
                boolean fine = has[law].charAt(name) == '1';
                check.fault(laws[law] + " 1+" + names[name] + ";", fine ? 0 : 5, fine ? -1 : laws[law].length() + 3);
            }
        }
        check.fault("shines light 1;", 5, 7);
        check.fault("shines 1 light 1;", 1, 9);
        check.fault("kicks light at;pays light 3;", 0, -1);
    }

    private static void twiceAndTooMany(Check check) {
        check.fault("shines 1;pays 1;kicks 1;", 0, -1);
        check.fault("shines 1;pays 1;shines 2;", 4, 16);
        check.fault("pays 1;pays 10000;", 4, 7);
        check.fault("kicks 1;kicks 1;", 4, 8);
        String many = "out;".repeat(24);
        check.fault(many, 0, -1);
        check.fault(many + " out", 6, 97);
        check.fault(many + " xyz", 1, 97);
        check.fault(many + ";", 1, 96);
        check.fault(many + "lodge 30;", 6, 96);
        check.fault("pays 1;" + "out;".repeat(23) + "pays 1;", 4, 99);
        check.fault("pays 1;" + "out;".repeat(23) + "kicks 1;", 6, 99);
    }
}
