/** Promises 26 to 33 and 36 to 41: the best place, what fits, seats, leases and whose law. */
public final class SearchTest {
    private static final int MIN = Integer.MIN_VALUE;
    private static final int MAX = Integer.MAX_VALUE;

    public static void main(String[] args) {
        Check check = new Check();
        lists(check);
        best(check);
        lit(check);
        brightest(check);
        fits(check);
        ask(check);
        seats(check);
        gains(check);
        lease(check);
        whose(check);
        till(check);
        check.end("SearchTest");
    }

    private static void lists(Check check) {
        list(check, "P26 work", "work", 6, 4);
        list(check, "P27 dark", "dark", 6, 5);
        list(check, "P30 seen", "seen", 8, 6);
        list(check, "P38 read", "read", 8, 7);
    }

    private static void list(Check check, String title, String name, int most, int about) {
        Run run = new Run(check, title);
        run.calls(name + "(30,0)=-2 " + name + "(-2,0)=-2 " + name + "(0,-1)=-2 " + name + "(0,16)=-2");
        run.calls(name + "(" + MIN + ",0)=-2 " + name + "(" + MAX + ",0)=-2 " + name + "(3," + MAX + ")=-2");
        for (int i = 1; i <= most; i++) {
            run.calls(name + "(" + (i % 2 * 29) + "," + (i % 2 * 15) + ")=" + i + " about(" + about + ")=" + i);
        }
        run.calls(name + "(1,1)=-2 about(" + about + ")=" + most + " " + name + "(-1,99)=0 about(" + about + ")=0");
        run.calls(name + "(-1,0)=0 cell(4,1)=1 " + name + "(4,1)=1 " + name + "(4,1)=2 about(3)=0");
    }

    private static void best(Check check) {
        // size 6: 6, four of 4, eight of 2 and twelve of 0 where there is room all around
        new Run(check, "P28 best").calls("best(false)=0 best(true)=0 hour(60)=0 hour(60)=0 hour(24)=0 is(2)=6 best(false)=14")
                .calls("best(true)=38 lodge(0)=1 best(false)=14 is(3)=0 work(0,6)=1 best(false)=0 best(true)=20 work(29,1)=2")
                .calls("best(false)=-1 best(true)=-1 work(-1,0)=0 dark(14,1)=1 best(false)=10 best(true)=34 dark(-1,0)=0")
                .calls("work(14,2)=1 dark(14,3)=1 best(false)=9 best(true)=36 dark(10,3)=2 best(false)=21 best(true)=36");
        new Run(check, "P28 best and walls").law("shines 3;").calls("cell(1,1)=1 cell(6,1)=1 best(false)=2 best(true)=81")
                .calls("work(0,1)=1 best(false)=0 best(true)=3 dark(1,0)=1 best(false)=0 work(1,0)=2 best(false)=0")
                .calls("work(6,1)=3 best(false)=-1");
        new Run(check, "P28 no light at all").law("shines 0;").calls("cell(0,1)=1 best(false)=1 best(true)=0 dark(5,0)=1")
                .calls("best(false)=1 work(5,0)=1 best(false)=1 work(5,1)=2 best(false)=-1");
    }

    private static void lit(Check check) {
        new Run(check, "P29 lit").calls("lit(-1)=-1 lit(16)=-1 lit(" + MIN + ")=-1 lit(" + MAX + ")=-1 lit(0)=1073741823 lit(1)=0")
                .law("shines at-10;").calls("lit(1)=0 lodge(3)=1 lit(15)=1040187392 lit(14)=1056964608 cell(29,1)=1")
                .calls("lit(15)=503316480 lit(0)=536870911 out()=1 lit(1)=0 lit(0)=536870911");
    }

    private static void brightest(Check check) {
        new Run(check, "P41 brightest").calls("brightest()=-1 lodge(5)=1 brightest()=-1 hour(24)=0 brightest()=5")
                .law("shines if at=7 or at=9 then 3 else 2 end;").calls("brightest()=7 cell(7,1)=1 brightest()=9 cell(9,1)=1")
                .calls("brightest()=0 out()=1 brightest()=-1");
    }

    private static void fits(Check check) {
        new Run(check, "P31 fits").calls("fits(-1)=-1 fits(3)=-1 fits(" + MAX + ")=-1 fits(0)=480 fits(1)=1073741823 fits(2)=65535")
                .calls("seen(0,15)=1 fits(0)=1 fits(1)=1 fits(2)=32768 seen(1,13)=2 fits(0)=1 seen(2,12)=3 fits(0)=0 fits(1)=0")
                .calls("fits(2)=0 seen(-1,0)=0 seen(0,13)=1 fits(0)=3 fits(1)=67 fits(2)=40960 seen(1,15)=2 fits(1)=2")
                .calls("fits(2)=32768 cell(1,1)=1 fits(0)=0");
        new Run(check, "P31 size and hour").law("shines size+hour+phase-size/15;").calls("seen(4,4)=1 fits(2)=16 hour(3)=0")
                .calls("fits(2)=2 fits(0)=30 hour(21)=0 fits(0)=0 lodge(3)=1 seen(-1,0)=0 fits(0)=480");
        Run alone = new Run(check, "P31 one cell alone").law("shines size;");
        for (int c = 0; c < 29; c++) {
            alone.calls("cell(" + c + ",1)=1");
        }
        alone.calls("seen(29,4)=1 fits(2)=16 fits(1)=536870912 ask()=29 best(true)=0 hour(24)=0 best(true)=1");
        new Run(check, "P31 walls are dark").calls("cell(3,1)=1 seen(3,0)=1 fits(0)=464 seen(3,1)=2 fits(0)=0");
    }

    private static void ask(Check check) {
        // of cell 0 the lights of cells 0 .. 9 steps away, of all sizes: 0 .. 15; so of every cell
        new Run(check, "P32 ask").calls("ask()=0 cell(0,1)=1 ask()=1 seen(29,15)=1 fits(0)=1 ask()=1 seen(29,15)=2 ask()=1")
                .calls("seen(29,14)=3 ask()=-1");
        new Run(check, "P32 the most unlike").law("shines if at=9 then size else if at=4 then size/2 else 1 end end;")
                .calls("ask()=9 cell(9,1)=1 ask()=4 seen(4,7)=1 ask()=0 cell(0,1)=1 ask()=1 is(3)=-1");
        new Run(check, "P32 of size 0 too").law("shines if at=9 and size=0 then 5 else if at=12 and size=15 then 5 else 0 end end;")
                .calls("ask()=9 cell(9,1)=1 ask()=12 cell(12,1)=1 ask()=0");
        new Run(check, "P32 by the steps").law("shines steps;").calls("ask()=0 seen(0,4)=1 fits(1)=17318416 ask()=4");
    }

    private static void seats(Check check) {
        new Run(check, "P33 seats").calls("seats(-1,true)=-1 seats(16,false)=-1 seats(" + MIN + ",true)=-1 seats(0,false)=15")
                .calls("seats(0,true)=2 seats(1,false)=0 seats(1,true)=1").law("shines if at<6 then 5 else 0 end;")
                .calls("lodge(20)=1 seats(5,false)=3 seats(5,true)=4 seats(6,false)=0 cell(5,1)=1 seats(1,false)=3")
                .calls("seats(1,true)=1 cell(4,1)=1 seats(1,false)=2 seats(1,true)=3 cell(1,1)=1 seats(1,true)=2");
        new Run(check, "P33 rows part").law("shines if at=5 or at=6 then 5 else 0 end;").calls("lodge(20)=1 seats(5,false)=2")
                .calls("seats(5,true)=1");
        new Run(check, "P33 columns").law("shines if at-at/6*6=2 then 5 else 0 end;").calls("lodge(20)=1 seats(5,false)=3")
                .calls("seats(5,true)=1 cell(26,1)=1 seats(5,false)=2 seats(5,true)=3 out()=1 seats(5,true)=1");
    }

    private static void gains(Check check) {
        new Run(check, "P36 gain").calls("gain(-1,0)=0 gain(12,0)=0 gain(0,-100)=0 gain(0,100)=0 gain(" + MIN + ",0)=0")
                .calls("gain(0," + MAX + ")=0 gain(0," + MIN + ")=0 lease(12,0,-1)=0 gain(0,99)=1 gain(11,99)=1 gain(1,-99)=1")
                .calls("lease(12,0,-1)=198 lease(12,0,0)=1 lease(12,0,11)=1 lease(12,0,1)=0 lease(12,0,2)=0 gain(0,-5)=1")
                .calls("lease(12,0,-1)=99 lease(12,0,0)=0");
    }

    private static void lease(Check check) {
        new Run(check, "P37 lease").calls("lease(-1,0,0)=-10000 lease(13,0,0)=-10000 lease(1,-1,0)=-10000 lease(1,12,0)=-10000")
                .calls("lease(1,0,-2)=-10000 lease(1,0,12)=-10000 lease(" + MAX + ",0,0)=-10000 lease(1," + MAX + ",0)=-10000")
                .calls("lease(1,0," + MIN + ")=-10000 lease(1,0," + MAX + ")=-10000 lease(0,0,-1)=0 lease(12,0,3)=0");
        new Run(check, "P37 ties").calls("gain(3,5)=1 gain(7,5)=1 gain(9,5)=1 lease(1,0,3)=1 lease(1,0,7)=0 lease(2,0,-1)=10")
                .calls("lease(2,0,3)=1 lease(2,0,7)=1 lease(2,0,9)=0 lease(2,4,7)=0 lease(2,4,9)=1 lease(3,1,-1)=15")
                .calls("lease(2,3,7)=1 lease(3,2,-1)=10 lease(3,2,7)=1 lease(12,6,-1)=5 lease(12,6,3)=1 lease(12,5,-1)=10");
        new Run(check, "P37 fewest months").calls("gain(0,4)=1 gain(2,4)=1 gain(1,8)=1 lease(12,1,-1)=8 lease(12,1,1)=1")
                .calls("lease(12,1,0)=0 lease(12,0,-1)=16 lease(12,0,5)=0 gain(11,8)=1 lease(1,11,1)=1 lease(1,11,11)=0")
                .calls("lease(2,11,-1)=8 lease(2,9,-1)=16 lease(2,10,-1)=12 lease(2,10,0)=1 lease(2,10,11)=1");
        new Run(check, "P37 the lowest first, not the best").calls("gain(0,1)=1 gain(5,9)=1 gain(11,9)=1 gain(6,1)=1")
                .calls("lease(2,0,-1)=18 lease(2,0,0)=0 lease(3,0,-1)=19 lease(3,0,0)=1 lease(3,0,6)=0 lease(3,4,0)=1");
        Run losses = new Run(check, "P37 losses");
        for (int month = 0; month < 12; month++) {
            losses.calls("gain(" + month + ",-1)=1");
        }
        losses.calls("lease(12,0,-1)=0 lease(12,0,0)=0 lease(1,11,0)=0");
    }

    private static void whose(Check check) {
        new Run(check, "P39 whose").calls("whose()=0").text("shines 3;", 0).text("shines 5-steps;", 1).text("pays 1;", 2)
                .calls("whose()=7 read(2,0)=1 whose()=7 lodge(0)=1 whose()=4 read(-1,0)=0 read(2,3)=1 whose()=3 read(1,3)=2")
                .calls("whose()=1 read(29,1)=3 whose()=0 read(-1,0)=0 hour(60)=0 hour(60)=0 is(2)=5 read(1,3)=1 whose()=5")
                .calls("read(2,1)=2 whose()=4 by(1)=1 whose()=4 cell(1,1)=1 whose()=0 about(2)=1");
    }

    private static void till(Check check) {
        new Run(check, "P40 till").calls("till(-1)=-1 till(16)=-1 till(" + MIN + ")=-1 till(" + MAX + ")=-1 till(0)=0 till(1)=24")
                .calls("till(15)=360 hour(5)=0 till(0)=0 till(1)=19 till(15)=355 hour(20)=0 till(0)=695 till(1)=0 till(2)=23");
    }
}
