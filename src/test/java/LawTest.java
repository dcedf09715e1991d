/** Promise 9, and the laws as is, of and ofCell tell them. */
public final class LawTest {
    public static void main(String[] args) {
        Check check = new Check();
        by(check);
        sums(check);
        choices(check);
        pays(check);
        kicks(check);
        shines(check);
        lightInLaws(check);
        check.end("LawTest");
    }

    private static void by(Check check) {
        Run run = new Run(check, "P9 by");
        run.calls("by(0)=0 by(-1)=1 by(1)=0 about(2)=-1").text("pays 7;", 0).calls("is(6)=1 by(0)=1 about(2)=0 is(6)=7");
        run.text("pays 8;", 1).calls("is(6)=7 by(2)=0 by(-2)=0 about(2)=0 by(1)=1 is(6)=8 by(-1)=1 is(6)=1 about(2)=-1");
        run.calls("by(" + Integer.MIN_VALUE + ")=0 by(" + Integer.MAX_VALUE + ")=0 by(4)=0 about(3)=0");
    }

    /** What a sum comes to, told by pays: 0 .. 99. */
    private static void pay(Check check, String sum, int want) {
        new Run(check, sum).law("pays " + sum + ";").calls("is(6)=" + want);
    }

    private static void sums(Check check) {
        pay(check, "1+2*3", 7);
        pay(check, "(1+2)*3", 9);
        pay(check, "20-5-4", 11);
        pay(check, "100/7/2", 7);
        pay(check, "100/7*7", 98);
        pay(check, "7/2", 3);
        pay(check, "10+-7/2", 7);
        pay(check, "10+(0-7)/2", 7);
        pay(check, "5/0", 0);
        pay(check, "5+5/0*9", 5);
        pay(check, "0/0+4", 4);
        pay(check, "--5", 5);
        pay(check, "-5", 0);
        pay(check, "3- -2", 5);
        pay(check, "-2*-3", 6);
        pay(check, "-2-3+9", 4);
        pay(check, "9999", 99);
        pay(check, "100", 99);
        pay(check, "99", 99);
        pay(check, "007", 7);
        pay(check, "9999*9999/(1000*1000)*50", 50);
        pay(check, "9999*9999-(1000*1000-10)", 10);
        pay(check, "(0-9999*9999*9999+(1000*1000-10))/(0-1)", 10);
        pay(check, "9999*9999+9999*9999-(1000*1000-5)", 5);
        pay(check, "-(9999*9999)-9999+1000*1000+7", 7);
        pay(check, "1000*1000-999*1000-999", 1);
        pay(check, "1000*1000+1-999*1000-999", 1);
        pay(check, "mean 3 with 4", 3);
        pay(check, "9+mean -3 with 0", 8);
        pay(check, "9+mean -3 with -4", 6);
        pay(check, "mean 1 with 2+10", 11);
        pay(check, "mean 10 with 20*2", 30);
        pay(check, "mean (9999*9999) with (9999*9999)-(1000*1000-50)", 50);
        pay(check, "mean (1000*1000) with (1000*1000-4)-(1000*1000-10)", 8);
        pay(check, "mean mean 1 with 3 with mean 5 with 9", 4);
        pay(check, "-mean 1 with 3+10", 8);
        pay(check, "1+1*1-1/1+1*2/2-(1)-(((1)))+-1+3*9", 26);
    }

    private static void choices(Check check) {
        pay(check, "if 1<2 then 3 else 4 end", 3);
        pay(check, "if 2<2 then 3 else 4 end", 4);
        pay(check, "if 2<=2 then 3 else 4 end", 3);
        pay(check, "if 3<=2 then 3 else 4 end", 4);
        pay(check, "if 3>2 then 3 else 4 end", 3);
        pay(check, "if 2>2 then 3 else 4 end", 4);
        pay(check, "if 2>=2 then 3 else 4 end", 3);
        pay(check, "if 1>=2 then 3 else 4 end", 4);
        pay(check, "if 2=2 then 3 else 4 end", 3);
        pay(check, "if 1=2 then 3 else 4 end", 4);
        pay(check, "if 1#2 then 3 else 4 end", 3);
        pay(check, "if 2#2 then 3 else 4 end", 4);
        pay(check, "if not 1<2 then 3 else 4 end", 4);
        pay(check, "if not not 1<2 then 3 else 4 end", 3);
        for (String sign : new String[] {"<=", ">=", "="}) {
            pay(check, "if not 2" + sign + "2 then 3 else 4 end", 4);
            pay(check, "if 2" + sign + "2 and 2" + sign + "2 then 3 else 4 end", 3);
        }
        for (String ask : new String[] {"1<2", "2>1", "1#2"}) {
            pay(check, "if not " + ask + " then 3 else 4 end", 4);
            pay(check, "if " + ask + " and " + ask + " then 3 else 4 end", 3);
        }
        pay(check, "if 1<2 and 2<1 then 3 else 4 end", 4);
        pay(check, "if 2<1 and 1<2 then 3 else 4 end", 4);
        pay(check, "if 1<2 or 2<1 then 3 else 4 end", 3);
        pay(check, "if 2<1 or 1<2 then 3 else 4 end", 3);
        pay(check, "if 1<2 or 1<2 and 2<1 then 3 else 4 end", 3);
        pay(check, "if 1<2 and 2<1 or 1<2 then 3 else 4 end", 3);
        pay(check, "if 2<1 or 2<1 then 3 else 4 end", 4);
        pay(check, "if 1<2 and 1<2 and 2<1 then 3 else 4 end", 4);
        pay(check, "if not 2<1 and 2<1 then 3 else 4 end", 4);
        pay(check, "if not 1<2 or 1<2 then 3 else 4 end", 3);
        String waiting = "if 2=1or 1=1and 1=0+1*".repeat(7) + "1" + " then 1else 3end".repeat(7);
        pay(check, "40+2*" + waiting, 42);
        pay(check, "2*if 1<2 then 3 else 4 end+1", 7);
        pay(check, "if 2<1 then 3 else if 2<1 then 4 else 5 end end*2", 10);
        pay(check, "if if 1<2 then 1 else 9 end=1 then if 2<1 then 3 else 4 end else 5 end", 4);
        pay(check, "if 1+1<1*3 then 1+1 else 9+9 end+if 2<1 then 9 else 8 end", 10);
    }

    private static void pays(Check check) {
        new Run(check, "pays without").calls("is(6)=1 lodge(0)=1 hour(1)=0 is(4)=1").law("kicks 0;")
                .calls("is(6)=1 hour(2)=0 is(4)=3");
        new Run(check, "pays names").law("pays silver+bed*5+1;").calls("is(6)=1 cell(3,3)=1 lodge(3)=1 is(6)=6 hour(1)=0")
                .calls("is(4)=6 is(6)=12 hour(1)=0 is(4)=18 lodge(4)=1 is(6)=19 out()=1 is(6)=19 hour(3)=0 is(4)=18");
        new Run(check, "pays is bound").law("pays 5-10;").calls("is(6)=0 lodge(1)=1 hour(5)=0 is(4)=0").law("pays 999;")
                .calls("is(6)=99 hour(60)=0 is(4)=5940 hour(41)=0 is(4)=9999 hour(60)=0 is(4)=9999");
        new Run(check, "pays and time").law("pays hour*1000/1000+phase*10+size;").calls("is(6)=0 hour(23)=0 is(6)=23")
                .calls("hour(1)=0 is(6)=35 hour(24)=0 is(6)=70");
        new Run(check, "bed in a wall").law("pays bed+1;").calls("cell(3,3)=1 lodge(3)=1 is(6)=2 out()=1 cell(3,1)=1")
                .calls("undo()=1 is(6)=1 hour(1)=0 is(4)=1 cell(3,3)=1 is(6)=2 hour(1)=0 is(4)=3");
    }

    private static void kicks(Check check) {
        new Run(check, "kicks names").law("kicks mood+who*2+at;").calls("beast(3,2)=0 beast(0,1)=1 beast(9,9)=2 of(0,2)=5")
                .calls("of(1,2)=3 of(2,2)=10 lead(2,0)=1 of(2,2)=10");
        new Run(check, "kicks is bound").law("kicks 5-9;").calls("beast(0,5)=0 of(0,2)=0 hour(2)=0 of(0,1)=3")
                .law("kicks 99;").calls("of(0,2)=10 hour(3)=3 of(0,1)=6 of(0,3)=3");
        new Run(check, "kicks without").calls("beast(0,5)=0 beast(1,5)=1 beast(2,5)=2 of(0,2)=0").again(6, "hour(60)=0")
                .calls("is(2)=15 lodge(0)=1 of(0,2)=5 of(1,2)=4 of(2,2)=3").law("shines 2;").calls("of(0,2)=0");
        new Run(check, "kicks and time").law("kicks hour-phase-size;").calls("beast(0,0)=0 hour(4)=1 of(0,2)=4");
    }

    private static void shines(Check check) {
        new Run(check, "shines names").law("shines steps+kind*4+height-at;").calls("lodge(0)=1 ofCell(0,2)=5 ofCell(1,2)=5")
                .calls("cell(1,2)=1 ofCell(1,2)=13 height(1,0)=1 ofCell(1,2)=8 ofCell(6,2)=0 height(6,9)=1 ofCell(6,2)=4");
        new Run(check, "shines is bound").law("shines 10-steps*20;").calls("lodge(0)=1 ofCell(0,2)=10 ofCell(1,2)=0")
                .law("shines 99;").calls("ofCell(0,2)=15 ofCell(29,2)=15 lit(15)=1073741823 cell(29,1)=1 ofCell(29,2)=0");
        new Run(check, "shines without").law("pays 3;").calls("hour(60)=0 hour(60)=0 lodge(7)=1 ofCell(7,2)=5 ofCell(8,2)=3")
                .calls("ofCell(9,2)=1 ofCell(10,2)=0");
        new Run(check, "shines and time").law("shines hour/10+phase*2+size;").calls("lodge(0)=1 ofCell(5,2)=0 hour(20)=0")
                .calls("ofCell(5,2)=2 hour(4)=0 ofCell(5,2)=5 hour(16)=0 ofCell(5,2)=7");
        new Run(check, "shines anew each hour").law("shines hour;kicks light at;").calls("beast(5,0)=0 lodge(0)=1 of(0,2)=0")
                .calls("hour(3)=0 of(0,2)=3 ofCell(5,2)=3 hour(1)=1 book(0,2)=3 of(0,2)=4 ofCell(5,2)=4 foretold(9,2,0)=8")
                .calls("of(0,2)=4 ofCell(5,2)=4 undo()=4 of(0,2)=3");
        new Run(check, "shines where there are steps").law("shines 9;").calls("cell(1,1)=1 cell(6,1)=1 lodge(0)=1 lit(1)=1")
                .calls("ofCell(0,2)=9 ofCell(1,2)=0 ofCell(2,2)=0 lodge(2)=1 ofCell(0,2)=0 ofCell(29,2)=9 out()=1 lit(1)=0");
    }

    private static void lightInLaws(Check check) {
        new Run(check, "light in pays").law("shines at+1;pays light 3+light 30+light -1+light(2+2)*10;").calls("is(6)=0")
                .calls("lodge(9)=1 is(6)=54 cell(4,1)=1 is(6)=4 cell(3,1)=1 is(6)=0");
        new Run(check, "light in kicks").law("shines 5-steps;kicks light at;").calls("beast(0,0)=0 lodge(2)=1 of(0,2)=3")
                .calls("lead(0,2)=1 of(0,2)=5 lodge(29)=1 of(0,2)=0");
        new Run(check, "light of light").law("shines at;pays light light light 5;").calls("lodge(0)=1 is(6)=5")
                .calls("cell(5,1)=1 is(6)=0");
        new Run(check, "light and default").law("pays light 0*10+light 1;").again(3, "hour(24)=0")
                .calls("is(6)=0 lodge(0)=1 is(6)=31 lodge(1)=1 is(6)=13");
    }
}
